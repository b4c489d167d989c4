/-! calls over a whole world where more than the world may change: in constructors and in the law -/
def oW (Z : ow_Z) (A : Nat → Prop) (lo n : Nat) (σ : ow_S) (s : State) (H : Heap) (locs : List Loc) : Prop := va_P Z.1 vwCl (ow_W Z lo n σ) H ∧ va_D (ow_A Z lo n) (ow_W Z lo n σ) ∧ va_S A s.heap H locs ∧ ow_Ok lo n σ.2.2 ∧ ∀ q, ow_A Z lo n q → A q
section OWL
variable {p : Program} {l : Launch} {e : Env} {R : Room} {s : State} {m : MethodId} {args : Array Value} {below : List Frame} {meth : Method} {c : Code} {H : Heap} {locs : List Loc} {cells slots : Nat} {Q : State → Prop}
variable {cc : ByteArray} {pc : Nat} {ls : Array Slot} {rest st0 : List Value} {a : Array Value} {Z : ow_Z} {A : Nat → Prop} {lo n : Nat} {σ σ' : ow_S}
theorem o_preV {As : List Value} {k ci : Nat} {C : String} {T : u_T} {N : Nat} (hG : ow_G Z A s s.heap) (hW : oW Z A lo n σ s H locs) (hk : ow_in lo n k ci) (hci : ci < 10) (hc : vwCl[ci]? = some (C, T, N)) : PreV s H C (ow_ad Z k) (ow_Pc Z lo n (.ref (ow_ad Z k) :: As) σ) As :=
  ⟨ow_blind Z lo n σ _, va_recv hG.1.1 hW.1 hc (by rw [ow_W_at Z σ hk.1 hk.2.1, ow_E_obj Z σ hk.2.2 hci]), fun U hU hWm => ⟨rfl, ⟨(hG.pass hW.2.2.1 hWm hU).1, (hG.pass hW.2.2.1 hWm hU).2.narrow hW.2.2.2.2⟩, by rw [hU]; exact hW.1, hW.2.1, hW.2.2.2.1⟩⟩
theorem o_preK {As : List Value} {i : Nat} (hG : ow_G Z A s s.heap) (hW : oW Z A lo n σ s H locs) (hi : i < 13) : PreV s H "java/lang/String" (ow_adK Z i) (ow_Pc Z lo n (.ref (ow_adK Z i) :: As) σ) As :=
  ⟨ow_blind Z lo n σ _, vk_recv hG.2.1 hi hW.2.2.1, fun U hU hWm => ⟨rfl, ⟨(hG.pass hW.2.2.1 hWm hU).1, (hG.pass hW.2.2.1 hWm hU).2.narrow hW.2.2.2.2⟩, by rw [hU]; exact hW.1, hW.2.1, hW.2.2.2.1⟩⟩
theorem o_calli {r : Int32} (hr : va_Run p l e R s m args below meth c H locs cells slots 0 0 (F0 m pc ls st0) rest (ow_Qi Z lo n r σ' a) (ow_A Z lo n)) (hW : oW Z A lo n σ s H locs)
    (kk : ∀ (H1 : Heap) (locs1 : List Loc), oW Z A lo n σ' s H1 locs1 → H.size ≤ H1.size → (∀ q : Nat, q < H.size → ¬ ow_A Z lo n q → H1[q]? = H[q]?) → W p l e R s m args below meth c H1 locs1 cells slots Q (F0 m (pc + 3) ls (.int r :: rest))) : W p l e R s m args below meth c H locs cells slots Q (F0 m pc ls st0) := by
  refine va_calli hr hW.2.2.1 (fun q _ h => hW.2.2.2.2 q h) (fun q h => hW.2.2.2.2 q h) (fun r1 u t H1 locs1 ht hvm hw hB hz hk hS => ?_)
  subst hw
  exact kk H1 locs1 ⟨by rw [← ht]; exact hB.1, ow_D_same hW.2.1, hS, hB.2, hW.2.2.2.2⟩ hz hk
theorem o_calll {r : Int64} (hr : va_Run p l e R s m args below meth c H locs cells slots 0 0 (F0 m pc ls st0) rest (ow_Ql Z lo n r σ' a) (ow_A Z lo n)) (hW : oW Z A lo n σ s H locs)
    (kk : ∀ (H1 : Heap) (locs1 : List Loc), oW Z A lo n σ' s H1 locs1 → H.size ≤ H1.size → (∀ q : Nat, q < H.size → ¬ ow_A Z lo n q → H1[q]? = H[q]?) → W p l e R s m args below meth c H1 locs1 cells slots Q (F0 m (pc + 3) ls (.long r :: rest))) : W p l e R s m args below meth c H locs cells slots Q (F0 m pc ls st0) := by
  refine va_calll hr hW.2.2.1 (fun q _ h => hW.2.2.2.2 q h) (fun q h => hW.2.2.2.2 q h) (fun r1 u t H1 locs1 ht hvm hw hB hz hk hS => ?_)
  subst hw
  exact kk H1 locs1 ⟨by rw [← ht]; exact hB.1, ow_D_same hW.2.1, hS, hB.2, hW.2.2.2.2⟩ hz hk
theorem o_callv (hr : va_Run p l e R s m args below meth c H locs cells slots 0 0 (F0 m pc ls st0) rest (ow_Qv Z lo n σ' a) (ow_A Z lo n)) (hW : oW Z A lo n σ s H locs)
    (kk : ∀ (H1 : Heap) (locs1 : List Loc), oW Z A lo n σ' s H1 locs1 → H.size ≤ H1.size → (∀ q : Nat, q < H.size → ¬ ow_A Z lo n q → H1[q]? = H[q]?) → W p l e R s m args below meth c H1 locs1 cells slots Q (F0 m (pc + 3) ls rest)) : W p l e R s m args below meth c H locs cells slots Q (F0 m pc ls st0) := by
  refine va_callv hr hW.2.2.1 (fun q _ h => hW.2.2.2.2 q h) (fun q h => hW.2.2.2.2 q h) (fun u t H1 locs1 ht hvm hw hB hz hk hS => ?_)
  exact kk H1 locs1 ⟨by rw [← ht]; exact hB.1, ow_D_same hW.2.1, hS, hB.2, hW.2.2.2.2⟩ hz hk
/-- a world grown whole is an own world -/
theorem gW_oW {ads : List Nat} {σ : ow_S} (hW : gW Z A lo ads σ s H locs) (hn : ads.length = n) (hO : ow_Ok lo n σ.2.2) : oW (gz Z lo ads) A lo n σ s H locs := by
  subst hn
  refine ⟨hW.1, ⟨hW.2.1.1, fun k q hk => ?_⟩, hW.2.2.1, hO, ?_⟩
  · have hlt : k < ads.length := by
      have := (List.getElem?_eq_some_iff.mp hk).1
      simpa [gws, ow_W] using this
    have e := gws_at Z (lo := lo) (ads := ads) σ (k := lo + k) (by omega) (by omega)
    rw [Nat.add_sub_cancel_left] at e
    have e' : (gws Z lo ads σ)[k]? = some q := hk
    rw [e] at e'
    cases e'
    exact ⟨lo + k, by omega, by omega, rfl⟩
  · rintro q ⟨k, h1, h2, rfl⟩
    exact hW.2.1.2 (k - lo) _ (gws_at Z σ h1 h2)
/-- a world that a call did not touch -/
theorem oW.kept {lo' n' : Nat} {H1 : Heap} {locs1 : List Loc} (h : oW Z A lo n σ s H locs) (hS : va_S A s.heap H1 locs1) (hk : ∀ q : Nat, q < H.size → ¬ ow_A Z lo' n' q → H1[q]? = H[q]?) (hd : ∀ q, ow_A Z lo n q → ¬ ow_A Z lo' n' q) : oW Z A lo n σ s H1 locs1 :=
  ⟨h.1.kept (fun k q hq => hk q.1 (h.1 k q hq).lt (hd _ (h.2.1.2 k q hq))), h.2.1, hS, h.2.2.2⟩
end OWL
