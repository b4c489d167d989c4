/-! the law makes both worlds -/
theorem mk_oW {s : State} {Z : ow_Z} {A : Nat → Prop} {lo n : Nat} {ads : List Nat} {σ : ow_S} {H : Heap} {locs : List Loc} (hP : va_P Z.1 vwCl (gws Z lo ads σ) H) (hD : va_D A (gws Z lo ads σ)) (hS : va_S A s.heap H locs) (hn : ads.length = n) (hO : ow_Ok lo n σ.2.2) : oW (gz Z lo ads) A lo n σ s H locs := by
  subst hn
  refine ⟨hP, ⟨hD.1, fun k q hk => ?_⟩, hS, hO, ?_⟩
  · have hlt : k < ads.length := by
      have := (List.getElem?_eq_some_iff.mp hk).1
      simpa [gws, ow_W] using this
    have e := gws_at Z (lo := lo) (ads := ads) σ (k := lo + k) (by omega) (by omega)
    rw [Nat.add_sub_cancel_left] at e
    have e' : (gws Z lo ads σ)[k]? = some q := hk
    rw [e] at e'
    cases e'
    exact ⟨lo + k, by omega, by omega, rfl⟩
  · rintro q ⟨k, h1, h2, rfl⟩
    exact hD.2 (k - lo) _ (gws_at Z σ h1 h2)
/-- a world below, at addresses given on -/
theorem ow_E_gz (Z : ow_Z) {lo : Nat} (ads : List Nat) {σ : ow_S} (h : gr lo σ) {k : Nat} (hk : k < lo) : ow_E (gz Z lo ads) σ k = ow_E Z σ k := by
  have ha : ∀ t, t < lo → ow_ad (gz Z lo ads) t = ow_ad Z t := fun t ht => by
    show (if t < lo then ow_ad Z t else _) = _
    rw [if_pos ht]
  have e : ∀ j, (σ.2.2 k j).map (ow_ad (gz Z lo ads)) = (σ.2.2 k j).map (ow_ad Z) := by
    intro j
    cases c : σ.2.2 k j with
    | none => rfl
    | some t => show some _ = some _; rw [ha t (h k j t hk c)]
  have ev : ∀ j f, ow_v (gz Z lo ads) σ k j f = ow_v Z σ k j f := fun j f => by
    unfold ow_v; rw [e j]
  unfold ow_E
  simp only [ev, e]
  rfl
theorem ow_ad_gz (Z : ow_Z) {lo : Nat} (ads : List Nat) {t : Nat} (ht : t < lo) : ow_ad (gz Z lo ads) t = ow_ad Z t := by
  show (if t < lo then ow_ad Z t else _) = _
  rw [if_pos ht]
theorem ow_A_gz (Z : ow_Z) {lo : Nat} (ads : List Nat) {q : Nat} : ow_A (gz Z lo ads) 0 lo q ↔ ow_A Z 0 lo q := by
  constructor
  · rintro ⟨k, h1, h2, h3⟩; exact ⟨k, h1, h2, by rw [← ow_ad_gz Z (lo := lo) ads (by omega)]; exact h3⟩
  · rintro ⟨k, h1, h2, h3⟩; exact ⟨k, h1, h2, by rw [ow_ad_gz Z (lo := lo) ads (by omega)]; exact h3⟩
theorem oW.on {s : State} {Z : ow_Z} {A : Nat → Prop} {lo : Nat} {σ : ow_S} {H : Heap} {locs : List Loc} (ads : List Nat) (h : oW Z A 0 lo σ s H locs) (hg : gr lo σ) : oW (gz Z lo ads) A 0 lo σ s H locs := by
  have e : ow_W (gz Z lo ads) 0 lo σ = ow_W Z 0 lo σ := by
    unfold ow_W
    refine List.map_congr_left (fun i hi => ?_)
    rw [List.mem_range] at hi
    rw [ow_ad_gz Z ads (by omega), ow_E_gz Z ads hg (by omega)]
  obtain ⟨h1, h2, h3, h4, h5⟩ := h
  exact ⟨by rw [e]; exact h1, ⟨by rw [e]; exact h2.1, fun k q hk => (ow_A_gz Z ads).mpr (h2.2 k q (by rw [← e]; exact hk))⟩, h3, h4, fun q hq => h5 q ((ow_A_gz Z ads).mp hq)⟩
theorem lw_mk8 (l : Launch) {p : Program} {e : Env} {s : State} {m : MethodId} {below : List Frame} {meth : Method} {c : Code} {Z : ow_Z} {H : Heap} {b : Nat} {ls : Array Slot} {Q : State → Prop} {fu : Nat} {σr : ow_S} (hx : p.tables.exec = Jvm.exec) (hb : c.code = cL_law) (hml : c.maxLocals = 4) (hts : ∀ w ∈ lw_tbl, w.before #[Value.ref b] s = true) (hown : s.vm.findClass RL = some m.cls) (hG : ow_Gv Z s) (hGs : ow_Gs Z (fun q => s.heap.size ≤ q) s s.heap) (hf : f_X8_ini fu fu 0 i_X8 = some σr) (hS : va_S (fun q => s.heap.size ≤ q) s.heap H []) (hl : ls.size = 4)
    (kk : ∀ (q : Nat) (ads : List Nat) (H2 : Heap) (locs2 : List Loc), ads.length = 56 → (∀ a, ow_A (gz Z 0 ads) 0 56 a → H.size ≤ a) → va_S (fun q => H.size ≤ q) H H2 locs2 → oW (gz Z 0 ads) (fun q => s.heap.size ≤ q) 0 56 σr s H2 locs2 → ow_ad (gz Z 0 ads) 0 = q → W p l e room_1 s m #[Value.ref b] below meth c H2 locs2 56 2052 Q (F0 m 7 ls [.ref q])) : W p l e room_1 s m #[Value.ref b] below meth c H [] 0 0 Q (F0 m 0 ls []) := by
  refine va_new (ci := 8) (fs := g_df 8) (C := RX8) (T := TX8) (N := 15) (ws := gws Z 0 [] ow_0) (A := fun q => H.size ≤ q) (H0 := H) hx hb hts (fun w h => (gw_wsX80 w h).1) tyX8 tyX8_ok hown (hts _ (lw_ch_in 1 _ (List.mem_of_getElem? (i := 17) rfl))) (hts _ (lw_ch_in 1 _ (List.mem_of_getElem? (i := 18) rfl))) (hts _ (lw_ch_in 1 _ (List.mem_of_getElem? (i := 1) rfl))) hG.1 (fun k q hk => absurd hk (by simp [gws, ow_W])) ⟨fun i j p q hk => absurd hk (by simp [gws, ow_W]), fun k q hk => absurd hk (by simp [gws, ow_W])⟩ ⟨Nat.le_refl _, fun _ _ _ => rfl, fun _ h => absurd h List.not_mem_nil⟩ (fun _ h => h) rfl (fun j hj => by
    have h : ∀ j, j < 15 → defaultValue (tyX8 j) = vp_V (g_df 8) j := by decide +kernel
    exact h j hj) (Nat.le_of_ble_eq_true rfl) (Nat.le_of_ble_eq_true rfl) dL_law_0 (fun q H1 hP hD hS1 => ?_)
  rw [← gE_obj (gz Z 0 ([] ++ [q])) (σ := ow_0) (c := 0) (ci := 8) rfl (by decide) (gdf_0 0)] at hP hD
  have hP : va_P Z.1 vwCl (gws Z 0 [q] ow_0) H1 := hP
  have hD : va_D (fun q => H.size ≤ q) (gws Z 0 [q] ow_0) := hD
  have hF : ∀ a, gA Z 0 [q] ow_0 H1.size a → H.size ≤ a := by
    rintro a (⟨k, x, h⟩ | h)
    · exact hD.2 k _ h
    · exact Nat.le_trans hS1.1 h
  have hG1 : ow_Gs Z (fun q => s.heap.size ≤ q) s H1 := hGs.kept (fun a h1 h2 => (hS1.2.1 a (Nat.lt_of_lt_of_le h1 hS.1) (fun h => h2 (Nat.le_trans hS.1 h))).trans (hS.2.1 a h1 h2))
  have hG2 : ow_Gs Z (gA Z 0 [q] ow_0 H1.size) s H1 := hG1.narrow (fun a h => Nat.le_trans hS.1 (hF a h))
  refine lv_dup hx hb dL_law_3 rfl ?_
  refine va_callv (va_runI (As := []) (rest := [.ref q]) ⟨hx, hb, hml, hown, hts⟩ (k_X8 l Z fu q H1.size [q] rfl  σr hf) (cwI 0 hts gL_law_X8_init rfl rfl rfl (hts _ (lw_ch_in 1 _ (List.mem_of_getElem? (i := 1) rfl))) (hts _ (lw_ch_in 1 _ (List.mem_of_getElem? (i := 19) rfl))) (hts _ (lw_ch_in 1 _ (List.mem_of_getElem? (i := 20) rfl))) rfl (by decide +kernel) ⟨(Nat.le_of_ble_eq_true rfl), (Nat.le_of_ble_eq_true rfl)⟩) ⟨fun a U g mk q => ⟨q.1, ⟨q.2.1.1, q.2.1.2.1, q.2.1.2.2.1, ow_Gv.same (s := U) (U := U.calling g mk a) rfl q.2.1.2.2.2.1, q.2.1.2.2.2.2⟩, ow_Gs.moved (u := U) (U := U.calling g mk a) (ow_alike rfl) q.2.2⟩, fun U hU hWm => ⟨rfl, ⟨by rw [hU], by rw [hU]; exact hP, hD.weaken (fun _ _ _ _ => trivial), hG.pass hWm, gr_00 _⟩, by rw [hU]; exact hG2.moved hWm.alike⟩⟩ rfl rfl hl rfl (lv_room (Nat.le_of_ble_eq_true rfl)) dL_law_4 ⟨(Nat.le_of_ble_eq_true rfl), (Nat.le_of_ble_eq_true rfl)⟩) hS1 (fun q _ h => hF q h) hF (fun b t H2 locs2 ht hvm hw hB _ _ hS2 => ?_)
  obtain ⟨hP2, hD2, hO⟩ := hB
  rw [ht] at hP2
  have hn : ([q] ++ b).length = 56 := by rw [List.length_append, hw]; rfl
  refine kk q ([q] ++ b) H2 locs2 hn ?_ hS2 (mk_oW hP2 (hD2.weaken (fun k q _ h => Nat.le_trans hS.1 (hF _ h))) ⟨Nat.le_trans hS.1 hS2.1, fun a h1 h2 => (hS2.2.1 a (Nat.lt_of_lt_of_le h1 hS.1) (fun h => h2 (Nat.le_trans hS.1 h))).trans (hS.2.1 a h1 h2), fun x h => Nat.le_trans hS.1 (hS2.2.2 x h)⟩ hn hO) rfl
  rintro a ⟨k, h1, h2, rfl⟩
  exact hF _ (hD2.2 (k - 0) _ (gws_at Z σr h1 (by omega)))
theorem lw_mk9 (l : Launch) {p : Program} {e : Env} {s : State} {m : MethodId} {below : List Frame} {meth : Method} {c : Code} {Z : ow_Z} {H : Heap} {b : Nat} {ls : Array Slot} {Q : State → Prop} {fu : Nat} {r : Int32} {σr : ow_S} (hx : p.tables.exec = Jvm.exec) (hb : c.code = cL_law) (hml : c.maxLocals = 4) (hts : ∀ w ∈ lw_tbl, w.before #[Value.ref b] s = true) (hown : s.vm.findClass RL = some m.cls) (hG : ow_Gv Z s) (hGs : ow_Gs Z (fun q => s.heap.size ≤ q) s s.heap) (hf : f_X9_text fu i_X9 = some (r, σr)) (hS : va_S (fun q => s.heap.size ≤ q) s.heap H []) (hl : ls.size = 4)
    (kk : ∀ (q : Nat) (ads : List Nat) (H2 : Heap) (locs2 : List Loc), ads.length = 20 → (∀ a, ow_A (gz Z 56 ads) 56 20 a → H.size ≤ a) → va_S (fun q => H.size ≤ q) H H2 locs2 → oW (gz Z 56 ads) (fun q => s.heap.size ≤ q) 56 20 σr s H2 locs2 → ow_ad (gz Z 56 ads) 56 = q → W p l e room_1 s m #[Value.ref b] below meth c H2 locs2 76 4667 Q (F0 m 15 ls [.ref q])) : W p l e room_1 s m #[Value.ref b] below meth c H [] 56 2052 Q (F0 m 8 ls []) := by
  refine va_new (ci := 9) (fs := g_df 9) (C := RX9) (T := TX9) (N := 41) (ws := gws Z 56 [] ow_0) (A := fun q => H.size ≤ q) (H0 := H) hx hb hts (fun w h => (gw_wsX90 w h).1) tyX9 tyX9_ok hown (hts _ (lw_ch_in 4 _ (List.mem_of_getElem? (i := 147) rfl))) (hts _ (lw_ch_in 4 _ (List.mem_of_getElem? (i := 148) rfl))) (hts _ (lw_ch_in 1 _ (List.mem_of_getElem? (i := 14) rfl))) hG.1 (fun k q hk => absurd hk (by simp [gws, ow_W])) ⟨fun i j p q hk => absurd hk (by simp [gws, ow_W]), fun k q hk => absurd hk (by simp [gws, ow_W])⟩ ⟨Nat.le_refl _, fun _ _ _ => rfl, fun _ h => absurd h List.not_mem_nil⟩ (fun _ h => h) rfl (fun j hj => by
    have h : ∀ j, j < 41 → defaultValue (tyX9 j) = vp_V (g_df 9) j := by decide +kernel
    exact h j hj) (Nat.le_of_ble_eq_true rfl) (Nat.le_of_ble_eq_true rfl) dL_law_8 (fun q H1 hP hD hS1 => ?_)
  rw [← gE_obj (gz Z 56 ([] ++ [q])) (σ := ow_0) (c := 56) (ci := 9) rfl (by decide) (gdf_0 56)] at hP hD
  have hP : va_P Z.1 vwCl (gws Z 56 [q] ow_0) H1 := hP
  have hD : va_D (fun q => H.size ≤ q) (gws Z 56 [q] ow_0) := hD
  have hF : ∀ a, gA Z 56 [q] ow_0 H1.size a → H.size ≤ a := by
    rintro a (⟨k, x, h⟩ | h)
    · exact hD.2 k _ h
    · exact Nat.le_trans hS1.1 h
  have hG1 : ow_Gs Z (fun q => s.heap.size ≤ q) s H1 := hGs.kept (fun a h1 h2 => (hS1.2.1 a (Nat.lt_of_lt_of_le h1 hS.1) (fun h => h2 (Nat.le_trans hS.1 h))).trans (hS.2.1 a h1 h2))
  have hG2 : ow_Gs Z (gA Z 56 [q] ow_0 H1.size) s H1 := hG1.narrow (fun a h => Nat.le_trans hS.1 (hF a h))
  refine lv_dup hx hb dL_law_11 rfl ?_
  refine va_callv (va_runI (As := []) (rest := [.ref q]) ⟨hx, hb, hml, hown, hts⟩ (k_X9 l Z fu q H1.size [q] rfl r σr hf) (cwI 0 hts gL_law_X9_init rfl rfl rfl (hts _ (lw_ch_in 1 _ (List.mem_of_getElem? (i := 14) rfl))) (hts _ (lw_ch_in 4 _ (List.mem_of_getElem? (i := 149) rfl))) (hts _ (lw_ch_in 4 _ (List.mem_of_getElem? (i := 150) rfl))) rfl (by decide +kernel) ⟨(Nat.le_of_ble_eq_true rfl), (Nat.le_of_ble_eq_true rfl)⟩) ⟨fun a U g mk q => ⟨q.1, ⟨q.2.1.1, q.2.1.2.1, q.2.1.2.2.1, ow_Gv.same (s := U) (U := U.calling g mk a) rfl q.2.1.2.2.2.1, q.2.1.2.2.2.2⟩, ow_Gs.moved (u := U) (U := U.calling g mk a) (ow_alike rfl) q.2.2⟩, fun U hU hWm => ⟨rfl, ⟨by rw [hU], by rw [hU]; exact hP, hD.weaken (fun _ _ _ _ => trivial), hG.pass hWm, gr_00 _⟩, by rw [hU]; exact hG2.moved hWm.alike⟩⟩ rfl rfl hl rfl (lv_room (Nat.le_of_ble_eq_true rfl)) dL_law_12 ⟨(Nat.le_of_ble_eq_true rfl), (Nat.le_of_ble_eq_true rfl)⟩) hS1 (fun q _ h => hF q h) hF (fun b t H2 locs2 ht hvm hw hB _ _ hS2 => ?_)
  obtain ⟨hP2, hD2, hO⟩ := hB
  rw [ht] at hP2
  have hn : ([q] ++ b).length = 20 := by rw [List.length_append, hw]; rfl
  refine kk q ([q] ++ b) H2 locs2 hn ?_ hS2 (mk_oW hP2 (hD2.weaken (fun k q _ h => Nat.le_trans hS.1 (hF _ h))) ⟨Nat.le_trans hS.1 hS2.1, fun a h1 h2 => (hS2.2.1 a (Nat.lt_of_lt_of_le h1 hS.1) (fun h => h2 (Nat.le_trans hS.1 h))).trans (hS.2.1 a h1 h2), fun x h => Nat.le_trans hS.1 (hS2.2.2 x h)⟩ hn hO) rfl
  rintro a ⟨k, h1, h2, rfl⟩
  exact hF _ (hD2.2 (k - 56) _ (gws_at Z σr h1 (by omega)))
