/-! the image's and the class's own constructors -/
theorem g_nwp {Z : ow_Z} {s : State} (hG : ow_Gv Z s) (w : Cond) (h : (decide (w ∈ ow_nw) || decide (w ∈ ow_nw2)) = true) : va_Nw w s := by
  rcases Bool.or_eq_true_iff.mp h with h | h
  · exact hG.2.1.1 w (of_decide_eq_true h)
  · exact hG.2.1.2 w (of_decide_eq_true h)
def i_lp (arr base w : Nat) (f : Nat → ow_S → ow_S) : Nat → Nat → ow_S → ow_S
  | 0, _, σ => σ
  | q + 1, i, σ => i_lp arr base w f q (i + 1) (ow_sR (f (base + w * i) σ) arr i (some (base + w * i)))
theorem gdf_lp {arr base w : Nat} {f : Nat → ow_S → ow_S} (hf : ∀ {σ : ow_S} {k c : Nat}, gdf σ c → c ≠ k → gdf (f k σ) c) (hw : 0 < w) : ∀ (q i : Nat) (σ : ow_S) (c : Nat), arr < c → base + w * (i + q) ≤ c → base ≤ c → gdf σ c → gdf (i_lp arr base w f q i σ) c := by
  intro q
  induction q with
  | zero => intro i σ c _ _ _ h; exact h
  | succ q ih =>
    intro i σ c h1 h2 h3 h
    have e : w * i < w * (i + (q + 1)) := Nat.mul_lt_mul_of_pos_left (by omega) hw
    refine ih (i + 1) _ c h1 (by rw [show i + 1 + q = i + (q + 1) by omega]; exact h2) h3 ?_
    exact (hf h (by omega)).sR (by omega)
theorem rf_sR (σ : ow_S) {k j c z : Nat} {v : Option Nat} (hk : c ≠ k) : (ow_sR σ k j v).2.2 c z = σ.2.2 c z := by
  show va_up σ.2.2 k _ c z = _
  rw [va_up_ne _ _ hk]
theorem rf_sR' (σ : ow_S) {k j c : Nat} {v : Option Nat} (hk : c ≠ k) : (ow_sR σ k j v).2.2 c = σ.2.2 c := by
  show va_up σ.2.2 k _ c = _
  rw [va_up_ne _ _ hk]
theorem rf_i_X0 {σ : ow_S} {k c z : Nat} (hk : c ≠ k) : (i_X0 k σ).2.2 c z = σ.2.2 c z := by
  unfold i_X0; simp only [ow_sI, ow_sL, ow_sR, va_up_ne _ _ hk]
theorem rf_i_X5 {σ : ow_S} {k c z : Nat} (hk : c ≠ k) : (i_X5 k σ).2.2 c z = σ.2.2 c z := by
  unfold i_X5; simp only [ow_sI, ow_sL, ow_sR, va_up_ne _ _ hk]
theorem rf_i_X6 {σ : ow_S} {k c z : Nat} (hk : c ≠ k) : (i_X6 k σ).2.2 c z = σ.2.2 c z := by
  unfold i_X6; simp only [ow_sI, ow_sL, ow_sR, va_up_ne _ _ hk]
theorem rf_i_X4 {σ : ow_S} {k c z : Nat} (hk : c ≠ k) : (i_X4 k σ).2.2 c z = σ.2.2 c z := by
  unfold i_X4; simp only [ow_sI, ow_sL, ow_sR, va_up_ne _ _ hk]
theorem rf_i_X3 {σ : ow_S} {k c z : Nat} (hk : c ≠ k) : (i_X3 k σ).2.2 c z = σ.2.2 c z := by
  unfold i_X3; simp only [ow_sI, ow_sL, ow_sR, va_up_ne _ _ hk]
theorem rf_i_X7 {σ : ow_S} {k c z : Nat} (hk : c ≠ k) : (i_X7 k σ).2.2 c z = σ.2.2 c z := by
  unfold i_X7; simp only [ow_sI, ow_sL, ow_sR, va_up_ne _ _ hk]
theorem rf_i_X2 {σ : ow_S} {k c z : Nat} (hk : c ≠ k) : (i_X2 k σ).2.2 c z = σ.2.2 c z := by
  unfold i_X2; simp only [ow_sI, ow_sL, ow_sR, va_up_ne _ _ hk]
def ow_0 : ow_S := (fun _ _ => 0, fun _ => 0, fun _ _ => none)
theorem gdf_0 (c : Nat) : gdf ow_0 c := ⟨fun _ => rfl, rfl, fun _ => rfl⟩
theorem gd1_0 {ρ : ow_S} (h : ∀ c, 17 ≤ c → c < 56 → gdf ρ c) : ∀ c, 17 ≤ c → c < 56 → gdf ρ c := h
def s1_1 (ρ : ow_S) : ow_S := ow_sR (i_X4 17 ρ) 16 0 (some 17)
theorem gd1_1 {ρ : ow_S} (h : ∀ c, 17 ≤ c → c < 56 → gdf ρ c) : ∀ c, 19 ≤ c → c < 56 → gdf (s1_1 ρ) c := fun c h1 h2 => (((gd1_0 h c (by omega) h2).iX4 (by omega)).sR (by omega))
def s1_2 (ρ : ow_S) : ow_S := ow_sR (s1_1 ρ) 16 1 (some 19)
theorem gd1_2 {ρ : ow_S} (h : ∀ c, 17 ≤ c → c < 56 → gdf ρ c) : ∀ c, 20 ≤ c → c < 56 → gdf (s1_2 ρ) c := fun c h1 h2 => ((gd1_1 h c (by omega) h2).sR (by omega))
def s1_3 (ρ : ow_S) : ow_S := ow_sI (s1_2 ρ) 16 2 0
theorem gd1_3 {ρ : ow_S} (h : ∀ c, 17 ≤ c → c < 56 → gdf ρ c) : ∀ c, 20 ≤ c → c < 56 → gdf (s1_3 ρ) c := fun c h1 h2 => ((gd1_2 h c (by omega) h2).sI (by omega))
def s1_4 (ρ : ow_S) : ow_S := ow_sI (s1_3 ρ) 16 3 0
theorem gd1_4 {ρ : ow_S} (h : ∀ c, 17 ≤ c → c < 56 → gdf ρ c) : ∀ c, 20 ≤ c → c < 56 → gdf (s1_4 ρ) c := fun c h1 h2 => ((gd1_3 h c (by omega) h2).sI (by omega))
def s1_5 (ρ : ow_S) : ow_S := ow_sI (s1_4 ρ) 16 4 0
theorem gd1_5 {ρ : ow_S} (h : ∀ c, 17 ≤ c → c < 56 → gdf ρ c) : ∀ c, 20 ≤ c → c < 56 → gdf (s1_5 ρ) c := fun c h1 h2 => ((gd1_4 h c (by omega) h2).sI (by omega))
def s1_6 (ρ : ow_S) : ow_S := ow_sI (s1_5 ρ) 16 5 0
theorem gd1_6 {ρ : ow_S} (h : ∀ c, 17 ≤ c → c < 56 → gdf ρ c) : ∀ c, 20 ≤ c → c < 56 → gdf (s1_6 ρ) c := fun c h1 h2 => ((gd1_5 h c (by omega) h2).sI (by omega))
def s1_7 (ρ : ow_S) : ow_S := i_lp 19 20 1 i_X0 5 0 (s1_6 ρ)
theorem gd1_7 {ρ : ow_S} (h : ∀ c, 17 ≤ c → c < 56 → gdf ρ c) : ∀ c, 25 ≤ c → c < 56 → gdf (s1_7 ρ) c := fun c h1 h2 => gdf_lp (f := i_X0) (fun h hk => h.iX0 hk) (by decide) 5 0 _ c (by omega) (by omega) (by omega) (gd1_6 h c (by omega) h2)
def i_X1 (σ : ow_S) : ow_S := s1_7 σ
theorem gdf.iX1 {σ : ow_S} {c : Nat} (h : gdf σ c) (hk : ¬(16 ≤ c ∧ c < 25)) : gdf (i_X1 σ) c := by
  have e : ∀ (q i : Nat) (τ : ow_S), i + q = 5 → gdf τ c → gdf (i_lp 19 20 1 i_X0 q i τ) c := by
    intro q
    induction q with
    | zero => intro i τ _ h; exact h
    | succ q ih =>
      intro i τ hi h
      exact ih (i + 1) _ (by omega) ((h.iX0 (by omega)).sR (by omega))
  refine e 5 0 _ rfl ?_
  exact ((((((h.iX4 (by omega)).sR (by omega)).sR (by omega)).sI (by omega)).sI (by omega)).sI (by omega)).sI (by omega)
set_option maxHeartbeats 800000 in
set_option maxRecDepth 100000 in
theorem k_X1 (l : Launch) (Z : ow_Z) (ads0 : List Nat) (ρ : ow_S) (h sz : Nat) (hn0 : ads0.length = 17) (ha_h : ow_ad (gz Z 0 ads0) 16 = h) (hgd : ∀ c, 17 ≤ c → c < 56 → gdf ρ c) : Met l yX1_init wsX1_init { frames := 3, cells := 8, slots := 92, locals := 120 } (va_Pc [.ref h] (gB Z 0 ads0 ρ sz)) (gQ Z 0 ads0 ρ (i_X1 ρ) 8 sz) 8 92 (gA Z 0 ads0 ρ sz) := by
  refine Met.ofW (cc := cX1_init) (maxL := 2) (ret := none) (by decide) rfl ?_
  intro p e s m args below meth c s₁ B hml hv
  obtain ⟨hav, hB⟩ := hv
  obtain ⟨hA, hG, hW⟩ := gB_begin hB
  have hx := B.exec
  have hb := B.bytes
  have hr := B.returns
  have hts := atoms_spec (ws := wsX1_init) B.pre
  have hown : s.vm.findClass RX1 = some m.cls := findClass_of_methodNamed B.named
  have hlocks := B.notSynchronized
  have hin : meth.name = "<init>" := (name_of_methodNamed B.named B.method).1
  have hinX1 : ∀ w ∈ wsX10, w ∈ wsX1_init := by decide +kernel
  have hl := lv_entry ([.ref h]) (n := 2) (Nat.le_of_ble_eq_true rfl)
  refine W.eq (g2 := F0 m 0 ((lg_sl ([.ref h]) ++ List.replicate (2 - (lg_sl ([.ref h])).length) Slot.unset).toArray) []) (by rw [hav]; exact lg_entry_eq _ _ _) ?_
  generalize (lg_sl ([.ref h]) ++ List.replicate (2 - (lg_sl ([.ref h])).length) Slot.unset).toArray = ls at hl ⊢
  have hl : lv_has ls 2 [(0, .ref h)] := hl
  have hp0 : ∃ b, ads0 = ads0 ++ b := ⟨[], (List.append_nil _).symm⟩
  have hkhJ45 : ∀ z, z < 5 → ow_K (20 + 1 * z) = 0 := by decide +kernel
  have hJ45 : ∀ (q i : Nat) (ads : List Nat) (σ : ow_S) (H : Heap) (locs : List Loc) (ls : Array Slot) (cl sl : Nat), i + q = 5 → ads.length = 20 + 1 * i → cl + 1 * q ≤ 8 → sl + 5 * q ≤ 92 → (∀ c, 20 + 1 * i ≤ c → c < 56 → gdf σ c) → σ.2.2 16 1 = some 19 → ow_ad (gz Z 0 ads) 16 = h → gW Z (gA Z 0 ads0 ρ sz) 0 ads σ s H locs → lv_has ls 2 [(0, .ref h), (1, .int (nI i))] → (∀ (b : List Nat) (H : Heap) (locs : List Loc) (ls : Array Slot), b.length = 1 * q → gW Z (gA Z 0 ads0 ρ sz) 0 (ads ++ b) (i_lp 19 20 1 i_X0 q i σ) s H locs → lv_has ls 2 [(0, .ref h), (1, .int (nI 5))] → W p l e (headSpec wsX1_init { frames := 3, cells := 8, slots := 92, locals := 120 }).room s m args below meth c H locs 8 92 (MQ below (gQ Z 0 ads0 ρ (i_X1 ρ) 8 sz) args s 8 92 (gA Z 0 ads0 ρ sz)) (F0 m 69 ls [])) → W p l e (headSpec wsX1_init { frames := 3, cells := 8, slots := 92, locals := 120 }).room s m args below meth c H locs cl sl (MQ below (gQ Z 0 ads0 ρ (i_X1 ρ) 8 sz) args s 8 92 (gA Z 0 ads0 ρ sz)) (F0 m 45 ls []) := by
    intro q
    induction q with
    | zero =>
      intro i ads σ H locs ls cl sl hi hn hc hs hgd hf ha_h hW hl kk
      obtain rfl : i = 5 := by omega
      refine lv_iload_n hx hb dX1_init_45 rfl (lv_at hl 1 rfl) ?_
      refine lv_iconst (v := 5) hx hb dX1_init_46 (by decide) ?_
      refine lv_icmp_ge (tgt := 69) hx hb dX1_init_47 (by decide) (fun c => ?_) (fun c => absurd (show (5 : Int32) ≤ nI 5 by decide) c)
      refine W.widen (k := 8) (n := 92) (by omega) (by omega) ?_
      exact kk [] _ _ _ rfl (by rw [List.append_nil]; exact hW) hl
    | succ q ih =>
      intro i ads σ H locs ls cl sl hi hn hc hs hgd hf ha_h hW hl kk
      have hK := hkhJ45 i (by omega)
      refine lv_iload_n hx hb dX1_init_45 rfl (lv_at hl 1 rfl) ?_
      refine lv_iconst (v := 5) hx hb dX1_init_46 (by decide) ?_
      refine lv_icmp_ge (tgt := 69) hx hb dX1_init_47 (by decide) (fun c => absurd ((n_le (a := 5) (b := i) (by decide) (by omega)).mp c) (by omega)) (fun c => ?_)
      refine lv_aload_n hx hb dX1_init_50 rfl (lv_at hl 0 rfl) ?_
      refine g_getR (k := 16) (ci := 1) (C := RX1) (T := TX1) (N := 6) hx hb hts hown hG.1 hW ha_h (by decide) (by rw [hn]; omega) rfl (by decide) rfl hinX1 1 (by decide) rfl (hts (.fieldLink RX1 20 "FiftyOneCards$Image" "heads" "[LFiftyOneCards$Head;") (by decide +kernel)) 19 hf dX1_init_51 ?_
      refine lv_iload_n hx hb dX1_init_54 rfl (lv_at hl 1 rfl) ?_
      refine g_new (ci := 0) (C := RX0) (T := TX0) (N := 5) (n := (20 + 1 * i)) hx hb hts (by decide +kernel) tyX0 tyX0_ok hown (hts (.classLink RX1 18 RX0) (by decide +kernel)) (hts (.instantiable RX0 5) (by decide +kernel)) (hts (.initialized RX0) (by decide +kernel)) hG.1 hW hA rfl (by decide) (by rw [hn]; omega) hK (hgd _ (by omega) (by omega)) (fun j hj => by rcases (show j = 0 ∨ j = 1 ∨ j = 2 ∨ j = 3 ∨ j = 4 by omega) with rfl | rfl | rfl | rfl | rfl <;> rfl) (by show cl + 1 ≤ 8; omega) (by show sl + 5 ≤ 92; omega) dX1_init_55 (fun q0 H hW => ?_)
      have ha_q : ow_ad (gz Z 0 (ads ++ [q0])) (20 + 1 * i) = q0 := by rw [show (20 + 1 * i) = 0 + ads.length by omega]; exact gz_new Z 0 ads q0
      refine lv_dup hx hb dX1_init_58 rfl ?_
      refine g_call (va_runIN (As := []) (rest := [.ref q0, .int (nI i), .ref (ow_ad (gz Z 0 ads) 19)]) ⟨hx, hb, hml, hown, hts⟩ (k_X0 l Z 0 (ads ++ [q0]) σ q0 H.size (20 + 1 * i) (by rw [List.length_append, List.length_singleton]; omega) (Nat.zero_le _) ha_q hK) ⟨va_cnB (host := "FiftyOneCards") 0 hts gX1_init_X0_init_n38 rfl rfl rfl (g_nwp hG (.methodLinkNest RX1 38 yX0_init "FiftyOneCards") (by decide +kernel)) (hts (.initialized RX0) (by decide +kernel)) (by decide +kernel) ⟨(Nat.le_of_ble_eq_true rfl), (Nat.le_of_ble_eq_true rfl)⟩, rfl, hts (.instanceMethod yX0_init) (by decide +kernel)⟩ (g_pre hG hW) rfl rfl hl.1 rfl (lv_room (Nat.le_of_ble_eq_true rfl)) dX1_init_59 ⟨by show cl + 1 + 0 ≤ 8; omega, by show sl + 5 + 0 ≤ 92; omega⟩) hW hA (fun b H locs hlb hW => ?_)
      have hlen : (ads ++ [q0] ++ b).length = 20 + 1 * (i + 1) := by rw [List.length_append, List.length_append, List.length_singleton, hlb, hn]; omega
      have ha_q2 : ow_ad (gz Z 0 (ads ++ [q0] ++ b)) (20 + 1 * i) = q0 := (gz_lt Z 0 (ads ++ [q0]) b (by rw [List.length_append, List.length_singleton]; omega)).trans ha_q
      have ha_a : ow_ad (gz Z 0 (ads ++ [q0] ++ b)) 19 = ow_ad (gz Z 0 ads) 19 := (gz_lt Z 0 (ads ++ [q0]) b (by rw [List.length_append, List.length_singleton]; omega)).trans (gz_lt Z 0 ads [q0] (by omega))
      have ha_h2 : ow_ad (gz Z 0 (ads ++ [q0] ++ b)) 16 = h := ((gz_lt Z 0 (ads ++ [q0]) b (by rw [List.length_append, List.length_singleton]; omega)).trans (gz_lt Z 0 ads [q0] (by omega))).trans ha_h
      refine g_ast (k := 19) (ci := 11) (kv := (20 + 1 * i)) (cv := 0) (C := RX0) (T := TX0) (N := 5) (L := 5) (i := i) hx hb hG.1 hW ha_a (by decide) (by rw [hlen]; omega) rfl (by decide) ha_q2 (Nat.zero_le _) (by rw [hlen]; omega) hK (by decide) rfl rfl rfl (by omega) (by decide) dX1_init_62 (fun H locs hW => ?_)
      refine lv_iinc (v := nI (i + 1)) (lv' := [(1, .int (nI (i + 1))), (0, .ref h)]) hx hb dX1_init_63 hl (k := 1) rfl (by rw [show Int32.ofInt 1 = nI 1 by decide, n_add]) (by decide) rfl (fun ls hl => ?_)
      refine lv_goto (tgt := 45) hx hb dX1_init_66 (by decide) ?_
      refine ih (i + 1) (ads ++ [q0] ++ b) (ow_sR (i_X0 (20 + 1 * i) σ) 19 i (some (20 + 1 * i))) _ _ _ _ _ (by omega) hlen (by omega) (by omega) (fun c h1 h2 => ((hgd c (by omega) h2).iX0 (by omega)).sR (by omega)) (by rw [rf_sR _ (by decide), rf_i_X0 (by omega)]; exact hf) ha_h2 hW (lv_sub hl [1, 0] rfl) (fun b2 H locs ls hb2 hW hl => ?_)
      refine kk ([q0] ++ b ++ b2) _ _ _ (by rw [List.length_append, List.length_append, List.length_singleton, hlb, hb2]; omega) ?_ hl
      have e : ads ++ ([q0] ++ b ++ b2) = ads ++ [q0] ++ b ++ b2 := by simp only [List.append_assoc]
      rw [e]; exact hW
  refine lv_aload_n hx hb dX1_init_0 rfl (lv_at hl 0 rfl) ?_
  refine W.objInit hx hb hown (hts (.methodLink RX1 3 objectInit) (by decide +kernel)) (hts (.instanceMethod objectInit) (by decide +kernel)) (hts (.code objectInit ⟨#[0xb1]⟩ 1 none) (by decide +kernel)) rfl (by rw [hml]; exact hl.1) rfl dX1_init_1 (Nat.le_of_ble_eq_true rfl) (Nat.le_of_ble_eq_true rfl) ?_
  refine W.eq (g2 := F0 m 4 ls []) rfl ?_
  refine lv_aload_n hx hb dX1_init_4 rfl (lv_at hl 0 rfl) ?_
  refine g_new (ci := 4) (C := RX4) (T := TX4) (N := 2) (n := 17) hx hb hts (by decide +kernel) tyX4 tyX4_ok hown (hts (.classLink RX1 9 RX4) (by decide +kernel)) (hts (.instantiable RX4 2) (by decide +kernel)) (hts (.initialized RX4) (by decide +kernel)) hG.1 hW hA rfl (by decide) (by rw [hn0]) rfl (gd1_0 hgd 17 (by decide) (by decide)) (fun j hj => by rcases (show j = 0 ∨ j = 1 by omega) with rfl | rfl <;> rfl) (Nat.le_of_ble_eq_true rfl) (Nat.le_of_ble_eq_true rfl) dX1_init_5 (fun q5 H hW => ?_)
  obtain ⟨ads1, hads1⟩ : ∃ z, z = ads0 ++ [q5] := ⟨_, rfl⟩
  rw [← hads1] at hW
  have hn1 : ads1.length = 18 := by rw [hads1, List.length_append, hn0]; (try rw [hlb]); (try rfl)
  have ha_h : ow_ad (gz Z 0 ads1) 16 = h := by rw [hads1]; exact (gz_lt Z 0 ads0 [q5] (by rw [hn0]; decide)).trans ha_h
  have hp1 : ∃ b, ads1 = ads0 ++ b := by obtain ⟨b0, hb0⟩ := hp0; exact ⟨b0 ++ [q5], by rw [hads1, ← List.append_assoc, ← hb0]⟩
  have ha_q5 : ow_ad (gz Z 0 ads1) 17 = q5 := by rw [hads1, show 17 = 0 + ads0.length by rw [hn0]]; exact gz_new Z 0 ads0 q5
  refine lv_dup hx hb dX1_init_8 rfl ?_
  refine g_call (va_runIN (As := []) (rest := [.ref q5, .ref h]) ⟨hx, hb, hml, hown, hts⟩ (k_X4 l Z 0 ads1 ρ q5 H.size 17 (by rw [hn1]) (by decide) ha_q5 rfl rfl rfl (gd1_0 hgd 18 (by decide) (by decide))) ⟨va_cnB (host := "FiftyOneCards") 0 hts gX1_init_X4_init_n11 rfl rfl rfl (g_nwp hG (.methodLinkNest RX1 11 yX4_init "FiftyOneCards") (by decide +kernel)) (hts (.initialized RX4) (by decide +kernel)) (by decide +kernel) ⟨(Nat.le_of_ble_eq_true rfl), (Nat.le_of_ble_eq_true rfl)⟩, rfl, hts (.instanceMethod yX4_init) (by decide +kernel)⟩ (g_pre hG hW) rfl rfl hl.1 rfl (lv_room (Nat.le_of_ble_eq_true rfl)) dX1_init_9 ⟨(Nat.le_of_ble_eq_true rfl), (Nat.le_of_ble_eq_true rfl)⟩) hW hA (fun b H locs hlb hW => ?_)
  obtain ⟨ads2, hads2⟩ : ∃ z, z = ads1 ++ b := ⟨_, rfl⟩
  rw [← hads2] at hW
  have hn2 : ads2.length = 19 := by rw [hads2, List.length_append, hn1]; (try rw [hlb]); (try rfl)
  have ha_h : ow_ad (gz Z 0 ads2) 16 = h := by rw [hads2]; exact (gz_lt Z 0 ads1 b (by rw [hn1]; decide)).trans ha_h
  have ha_q5 : ow_ad (gz Z 0 ads2) 17 = q5 := by rw [hads2]; exact (gz_lt Z 0 ads1 b (by rw [hn1]; decide)).trans ha_q5
  have hp2 : ∃ b, ads2 = ads0 ++ b := by obtain ⟨b0, hb0⟩ := hp1; exact ⟨b0 ++ b, by rw [hads2, ← List.append_assoc, ← hb0]⟩
  refine g_putR (k := 16) (ci := 1) (C := RX1) (T := TX1) (N := 6) hx hb hts hown hG.1 hW ha_h (by decide) (by rw [hn2]; decide) rfl (by decide) rfl hinX1 tyX1 tyX1_ok nmX1 0 (by decide) rfl (hts (.fieldLink RX1 12 "FiftyOneCards$Image" "row" "LFiftyOneCards$Row;") (by decide +kernel)) (Or.inr ⟨rfl, hin, rfl⟩) 17 (by rw [hn2]; decide) ha_q5 rfl rfl dX1_init_12 (fun H locs hW => ?_)
  have hW : gW Z (gA Z 0 ads0 ρ sz) 0 ads2 (s1_1 ρ) s H locs := hW
  refine W.widen (k := 2) (n := 62) (by omega) (by omega) ?_
  refine lv_aload_n hx hb dX1_init_15 rfl (lv_at hl 0 rfl) ?_
  refine lv_iconst (v := 5) hx hb dX1_init_16 (by decide) ?_
  refine g_newq (ci := 11) (C := RX0) (n := 19) (L := 5) hx hb hown (hts (.classLink RX1 18 RX0) (by decide +kernel)) hG.2.2.2.1 hG.1 hW hA (by rw [hn2]) rfl (by decide) rfl rfl (gd1_1 hgd 19 (by decide) (by decide)) (by decide) (by decide) (Nat.le_of_ble_eq_true rfl) (Nat.le_of_ble_eq_true rfl) (Nat.le_of_ble_eq_true rfl) dX1_init_17 (fun q17 H hW => ?_)
  obtain ⟨ads3, hads3⟩ : ∃ z, z = ads2 ++ [q17] := ⟨_, rfl⟩
  rw [← hads3] at hW
  have hn3 : ads3.length = 20 := by rw [hads3, List.length_append, hn2]; (try rw [hlb]); (try rfl)
  have ha_h : ow_ad (gz Z 0 ads3) 16 = h := by rw [hads3]; exact (gz_lt Z 0 ads2 [q17] (by rw [hn2]; decide)).trans ha_h
  have hp3 : ∃ b, ads3 = ads0 ++ b := by obtain ⟨b0, hb0⟩ := hp2; exact ⟨b0 ++ [q17], by rw [hads3, ← List.append_assoc, ← hb0]⟩
  have ha_q17 : ow_ad (gz Z 0 ads3) 19 = q17 := by rw [hads3, show 19 = 0 + ads2.length by rw [hn2]]; exact gz_new Z 0 ads2 q17
  refine g_putR (k := 16) (ci := 1) (C := RX1) (T := TX1) (N := 6) hx hb hts hown hG.1 hW ha_h (by decide) (by rw [hn3]; decide) rfl (by decide) rfl hinX1 tyX1 tyX1_ok nmX1 1 (by decide) rfl (hts (.fieldLink RX1 20 "FiftyOneCards$Image" "heads" "[LFiftyOneCards$Head;") (by decide +kernel)) (Or.inr ⟨rfl, hin, rfl⟩) 19 (by rw [hn3]; decide) ha_q17 rfl rfl dX1_init_20 (fun H locs hW => ?_)
  have hW : gW Z (gA Z 0 ads0 ρ sz) 0 ads3 (s1_2 ρ) s H locs := hW
  refine W.widen (k := 3) (n := 67) (by omega) (by omega) ?_
  refine lv_aload_n hx hb dX1_init_23 rfl (lv_at hl 0 rfl) ?_
  refine lv_iconst (v := 0) hx hb dX1_init_24 (by decide) ?_
  refine g_putI (k := 16) (ci := 1) (C := RX1) (T := TX1) (N := 6) hx hb hts hown hG.1 hW ha_h (by decide) (by rw [hn3]; decide) rfl (by decide) rfl hinX1 tyX1 tyX1_ok nmX1 2 (by decide) rfl (hts (.fieldLink RX1 24 "FiftyOneCards$Image" "there" "Z") (by decide +kernel)) rfl rfl rfl dX1_init_25 (fun H locs hW => ?_)
  have hW : gW Z (gA Z 0 ads0 ρ sz) 0 ads3 (s1_3 ρ) s H locs := hW
  refine lv_aload_n hx hb dX1_init_28 rfl (lv_at hl 0 rfl) ?_
  refine lv_iconst (v := 0) hx hb dX1_init_29 (by decide) ?_
  refine g_putI (k := 16) (ci := 1) (C := RX1) (T := TX1) (N := 6) hx hb hts hown hG.1 hW ha_h (by decide) (by rw [hn3]; decide) rfl (by decide) rfl hinX1 tyX1 tyX1_ok nmX1 3 (by decide) rfl (hts (.fieldLink RX1 28 "FiftyOneCards$Image" "pack" "I") (by decide +kernel)) rfl rfl rfl dX1_init_30 (fun H locs hW => ?_)
  have hW : gW Z (gA Z 0 ads0 ρ sz) 0 ads3 (s1_4 ρ) s H locs := hW
  refine lv_aload_n hx hb dX1_init_33 rfl (lv_at hl 0 rfl) ?_
  refine lv_iconst (v := 0) hx hb dX1_init_34 (by decide) ?_
  refine g_putI (k := 16) (ci := 1) (C := RX1) (T := TX1) (N := 6) hx hb hts hown hG.1 hW ha_h (by decide) (by rw [hn3]; decide) rfl (by decide) rfl hinX1 tyX1 tyX1_ok nmX1 4 (by decide) rfl (hts (.fieldLink RX1 32 "FiftyOneCards$Image" "headCount" "I") (by decide +kernel)) rfl rfl rfl dX1_init_35 (fun H locs hW => ?_)
  have hW : gW Z (gA Z 0 ads0 ρ sz) 0 ads3 (s1_5 ρ) s H locs := hW
  refine lv_aload_n hx hb dX1_init_38 rfl (lv_at hl 0 rfl) ?_
  refine lv_iconst (v := 0) hx hb dX1_init_39 (by decide) ?_
  refine g_putI (k := 16) (ci := 1) (C := RX1) (T := TX1) (N := 6) hx hb hts hown hG.1 hW ha_h (by decide) (by rw [hn3]; decide) rfl (by decide) rfl hinX1 tyX1 tyX1_ok nmX1 5 (by decide) rfl (hts (.fieldLink RX1 35 "FiftyOneCards$Image" "law" "I") (by decide +kernel)) rfl rfl rfl dX1_init_40 (fun H locs hW => ?_)
  have hW : gW Z (gA Z 0 ads0 ρ sz) 0 ads3 (s1_6 ρ) s H locs := hW
  have hfd : (s1_6 ρ).2.2 16 1 = some 19 := by
    show (ow_sR _ 16 1 (some 19)).2.2 16 1 = some 19
    exact gR_s _ _ _ _
  refine lv_iconst (v := 0) hx hb dX1_init_43 (by decide) ?_
  refine lv_istore_n (lv' := [(1, .int (nI 0)), (0, .ref h)]) hx hb dX1_init_44 rfl hl (by decide) rfl (fun ls hl => ?_)
  refine hJ45 5 0 ads3 (s1_6 ρ) _ _ _ _ _ (by omega) (by rw [hn3]) (by decide) (by decide) (fun c h1 h2 => gd1_6 hgd c (by omega) h2) hfd ha_h hW (lv_sub hl [1, 0] rfl) (fun b H locs ls hlb hW hl => ?_)
  obtain ⟨ads4, hads4⟩ : ∃ z, z = ads3 ++ b := ⟨_, rfl⟩
  rw [← hads4] at hW
  have hn4 : ads4.length = 25 := by rw [hads4, List.length_append, hn3]; (try rw [hlb]); (try rfl)
  have ha_h : ow_ad (gz Z 0 ads4) 16 = h := by rw [hads4]; exact (gz_lt Z 0 ads3 b (by rw [hn3]; decide)).trans ha_h
  have hp4 : ∃ b, ads4 = ads0 ++ b := by obtain ⟨b0, hb0⟩ := hp3; exact ⟨b0 ++ b, by rw [hads4, ← List.append_assoc, ← hb0]⟩
  have hW : gW Z (gA Z 0 ads0 ρ sz) 0 ads4 (s1_7 ρ) s H locs := hW
  obtain ⟨b, hb9⟩ := hp4
  have hlb9 : b.length = 8 := by have := hn4; rw [hb9, List.length_append, hn0] at this; omega
  rw [hb9] at hW
  exact g_vret hx hb hr hW hlb9 dX1_init_69 hlocks
