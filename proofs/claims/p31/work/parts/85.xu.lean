/-! ===== the call of a constructor; places named anew ===== -/
theorem xl_w_app (aC : Nat → ClassId) (ρ σ : Nat → Nat) (a b : XH) : xl_w aC ρ σ (a ++ b) = xl_w aC ρ σ a ++ xl_w aC (fun k => ρ (a.length + k)) σ b := by
  apply List.ext_getElem?
  intro i
  by_cases hi : i < a.length
  · rw [xl_w_at, List.getElem?_append_left hi, List.getElem?_append_left (by simp [xl_w]; exact hi), xl_w_at]
  · have hl : (xl_w aC ρ σ a).length = a.length := by simp [xl_w]
    rw [xl_w_at, List.getElem?_append_right (by omega), List.getElem?_append_right (by rw [hl]; omega), hl, xl_w_at]
    cases e : b[i - a.length]? with
    | none => rfl
    | some c =>
      show some (ρ i, xl_c aC ρ σ i c) = some (ρ (a.length + (i - a.length)), xl_c aC (fun k => ρ (a.length + k)) σ (i - a.length) c)
      rw [xl_ok_add a.length (i - a.length) c aC ρ σ]
      show some (ρ i, xl_c aC ρ σ i c) = some (ρ (a.length + (i - a.length)), xl_c aC ρ σ (a.length + (i - a.length)) c)
      rw [show a.length + (i - a.length) = i by omega]
section XU
variable {p : Program} {l : Launch} {e : Env} {R : Room} {s : State} {m : MethodId} {args : Array Value} {below : List Frame} {meth : Method} {c : Code} {H : Heap} {locs : List Loc} {cells slots : Nat} {Q : State → Prop}
theorem xn_after {pc mc ms n : Nat} {ls : Array Slot} {rest st0 : List Value} {a : Array Value} {A0 A1 free : Nat → Prop} {D : va_G} {aC : Nat → ClassId} {ρ σ : Nat → Nat} {Po : XH → Prop}
    (hr : va_Run p l e R s m args below meth c H locs cells slots mc ms (F0 m pc ls st0) rest (xn_Qc n D aC ρ σ A1 Po a) free) (hS : va_S A0 s.heap H locs) (hA : ∀ q, q < H.size → A1 q → A0 q) (hf : ∀ q, free q → A0 q)
    (kk : ∀ (ρ' : Nat → Nat) (h' : XH) (H1 : Heap) (locs1 : List Loc), (∀ i, i < n → ρ' i = ρ i) → Po h' → va_P D vwCl (xl_w aC ρ' σ h') H1 → va_D A1 (xl_w aC ρ' σ h') → H.size ≤ H1.size → (∀ q : Nat, q < H.size → ¬ A1 q → H1[q]? = H[q]?) → va_S A0 s.heap H1 locs1 → W p l e R s m args below meth c H1 locs1 (cells + mc) (slots + ms) Q (F0 m (pc + 3) ls rest)) : W p l e R s m args below meth c H locs cells slots Q (F0 m pc ls st0) := by
  intro T hT X
  obtain ⟨v, st₀, t, T', L, h0, X', hL, e1, e2, ⟨⟨ρ', h', hv, hi, hp, hP1, hK1, hD1⟩, hz, hk⟩, st⟩ := hr T hT X
  cases hv
  rw [h0] at hz hk
  obtain ⟨t2, a1, b1⟩ := kk ρ' h' T'.heap (locs ++ L) hi hp (by rw [e1]; exact hP1) hD1 (by rw [e1]; exact hz) (fun q h1 h2 => by rw [e1]; exact hk q h1 h2)
    ⟨Nat.le_trans hS.1 (by rw [e1]; exact hz), fun q h1 h2 => by rw [e1, hk q (Nat.lt_of_lt_of_le h1 hS.1) (fun z => h2 (hA q (Nat.lt_of_lt_of_le h1 hS.1) z))]; exact hS.2.1 q h1 h2, fun q hq => by
      rcases List.mem_append.mp hq with h | h
      · exact hS.2.2 q h
      · exact hf _ (hL q h)⟩ T' rfl X'
  exact ⟨t2, st t2 a1, b1⟩
end XU
section XV
variable {S : XS} {Nn : Nat} {M μ : XI} {rc rs pc pc2 mc ms : Nat} {L : List (Option Value)} {st rest : List Value} {h h0 : XH} {Po : Option (Option Value) → XH → Prop}
theorem xn_blind {hl : XH} {D : va_G} {aC : Nat → ClassId} {ρ σ aV : Nat → Nat} {sz : Nat} {As : List Value} : FrameBlind (xn_Pc D aC ρ σ aV sz As hl) := fun a U g mk q => by
  obtain ⟨q0, ⟨q1, qP, qK, qD, qE⟩, q2⟩ := q
  exact ⟨q0, ⟨q1, qP, va_K.moved (u := U) (U := U.calling g mk a) (Vm.Alike.refl U.vm) qK, qD, xl_S.same (u := U) (U := U.calling g mk a) rfl qE⟩, q2.1, va_AO.moved (u := U) (U := U.calling g mk a) (Vm.Alike.refl U.vm) q2.2⟩
def xn_Ci (M : XI) (pc : Nat) (μ : XI) (pc2 : Nat) : Prop := ∃ i, decode M.2.1 pc = .ok (.invokespecial i, 3) ∧ pc + 3 = pc2 ∧ Cond.methodLink M.1.cls i μ.1 ∈ xl_T ∧ μ.2.2.2.2.1 + 1 ≤ M.2.2.2.2.1 ∧ 8 + (μ.2.2.1 + 11) + μ.2.2.2.2.2.1 ≤ M.2.2.2.2.2.1
/-- what the tables say of a constructor -/
def xn_K (μ : XI) : Prop := xl_K μ ∧ μ.1.name = "<init>" ∧ μ.2.2.2.1 = none ∧ Cond.instanceMethod μ.1 ∈ xl_T
def xn_nr : Value → Bool := fun v => match v with
  | .ref _ => false
  | _ => true
theorem xn_nr_m {As : List Value} (h : As.all xn_nr = true) (ρ ρ' σ : Nat → Nat) : As.map (xl_v ρ σ) = As.map (xl_v ρ' σ) :=
  List.map_congr_left (fun v hv => by
    have := List.all_eq_true.mp h v hv
    cases v <;> first | rfl | cases this)
theorem xn_callI {cell : XE} {As : List Value} {Po' : XH → Prop} (d : xn_Ci M pc μ pc2) (hv : xn_K μ) (hst : st = As.reverse ++ .ref h0.length :: rest) (hn : As.length = μ.2.2.2.2.2.2) (hnr : As.all xn_nr = true) (hw : (rest.map fun v => if xl_1 v = true then 1 else 2).sum ≤ 8) (hk : xn_ok (h0.length + 1) L rest h0) (hN : Nn ≤ h0.length + 1) (hc : xn_C μ mc ms (.ref 0 :: As) [cell] Po')
    (kk : ∀ h', Po' h' → xn_W S Nn M rc rs pc2 L rest (h0 ++ h') Po) : xn_W S Nn M (rc + mc) (rs + ms) pc L st (h0 ++ [cell]) Po := by
  obtain ⟨i, d, rfl, d3, d4, d5⟩ := d
  obtain ⟨hk0, hv1, hv2, hv3⟩ := hv
  subst hst
  intro p l e R s m args below meth c D aC ρ σ aV A H locs cells slots ls Q hX hH hL h1 h2 hr ht hZ
  obtain ⟨hK, hP, hD, hS, hE, hA⟩ := id hH
  have hp : xl_pi (fun k => h0.length + k) (h0 ++ [cell]) [cell] := xl_pi_add (by simp)
  have hok : ∀ j c, [cell][j]? = some c → xl_ok (fun k => h0.length + k) j c := fun j c _ => xl_ok_add _ j c
  obtain ⟨g1, g2, g3⟩ := xl_part hH hp hok
  have hb := xl_callB (M := M) (mc := mc) (ms := ms) hX.2.2.2.2.2.1 hk0 d3 (Nat.le_trans d4 hX.2.2.2.2.2.2.2.1) (Nat.le_trans d5 hX.2.2.2.2.2.2.2.2.1)
  rw [hv2] at hb
  have hAs : (Value.ref h0.length :: As).map (xl_v ρ σ) = (Value.ref 0 :: As).map (xl_v (fun k => ρ (h0.length + k)) σ) := by
    rw [List.map_cons, List.map_cons, xn_nr_m hnr ρ (fun k => ρ (h0.length + k)) σ]
    rfl
  have hrun := va_runI (As := As.map (xl_v ρ σ)) (rest := rest.map (xl_v ρ σ)) (g := F0 m pc ls ((As.reverse ++ .ref h0.length :: rest).map (xl_v ρ σ))) (H := H) (locs := locs) (cells := cells) (slots := slots) (e := e) (below := below) (meth := meth) (b := ρ h0.length) ⟨hX.1, hX.2.1, hX.2.2.2.1, hX.2.2.2.2.1, hX.2.2.2.2.2.1⟩ (hc l hX.2.2.2.2.2.2.2.2.2 D aC (fun k => ρ (h0.length + k)) σ aV H.size) ⟨hb, hv1, hX.2.2.2.2.2.1 _ hv3⟩
    ⟨xn_blind, fun U hU hW => by
      have q := xl_ready (As := .ref 0 :: As) hH hp hok hU hW hAs
      exact ⟨q.1, q.2, fun k x hx => by rw [hW.alike.findClass]; exact hZ.1.1 k x hx, va_AO.moved hW.alike hZ.1.2⟩⟩ rfl (by rw [List.length_map]; exact hn) hL.1 (by simp [xl_v]) (lv_room (by rw [xl_cats]; exact hw)) d ⟨by omega, by omega⟩
  refine xn_after hrun hS (fun q _ hq => g3 q hq) g3 (fun ρ1 h' H1 locs1 hi hPo hP1 hD1 hz1 hk1 hS1 => ?_)
  have hi0 : ρ1 0 = ρ h0.length := hi 0 (by simp)
  obtain ⟨ρ2, hρ2⟩ : ∃ ρ2 : Nat → Nat, ρ2 = fun i => if i < h0.length then ρ i else ρ1 (i - h0.length) := ⟨_, rfl⟩
  have he : ∀ i, i < h0.length + 1 → ρ2 i = ρ i := by
    intro i hi
    rw [hρ2]
    show (if i < h0.length then ρ i else ρ1 (i - h0.length)) = ρ i
    by_cases h9 : i < h0.length
    · rw [if_pos h9]
    · have e9 : i = h0.length := by omega
      rw [if_neg h9, e9, Nat.sub_self, hi0]
  have he2 : (fun k => ρ2 (h0.length + k)) = ρ1 := by
    funext k
    rw [hρ2]
    show (if h0.length + k < h0.length then ρ (h0.length + k) else ρ1 (h0.length + k - h0.length)) = ρ1 k
    rw [if_neg (by omega), Nat.add_sub_cancel_left]
  have ew : xl_w aC ρ2 σ (h0 ++ h') = xl_w aC ρ σ h0 ++ xl_w aC ρ1 σ h' := by
    rw [xl_w_app, he2, xn_w_eq (by omega) hk.2.1 he]
  have eold : xl_w aC ρ σ (h0 ++ [cell]) = xl_w aC ρ σ h0 ++ xl_w aC (fun k => ρ (h0.length + k)) σ [cell] := xl_w_app _ _ _ _ _
  have hlen0 : (xl_w aC ρ σ h0).length = h0.length := by simp [xl_w]
  have hin : ∀ (k : Nat) (q : Nat × va_E), (xl_w aC ρ σ h0)[k]? = some q → (xl_w aC ρ σ (h0 ++ [cell]))[k]? = some q := by
    intro k q hq
    rw [eold, List.getElem?_append_left (List.getElem?_eq_some_iff.mp hq).1]
    exact hq
  have hap : ∀ (k : Nat) (q : Nat × va_E), (xl_w aC ρ σ h0)[k]? = some q → ¬ va_A (xl_w aC (fun k => ρ (h0.length + k)) σ [cell]) H.size q.1 := by
    intro k q hq hz
    have hkl := (List.getElem?_eq_some_iff.mp hq).1
    rcases hz with ⟨j, e9, hj⟩ | hz
    · have hjl := (List.getElem?_eq_some_iff.mp hj).1
      have hj0 : (xl_w aC ρ σ (h0 ++ [cell]))[h0.length + j]? = some (q.1, e9) := by
        rw [eold, List.getElem?_append_right (by omega), hlen0, Nat.add_sub_cancel_left]
        exact hj
      have := hD.1 _ _ _ _ (hin k q hq) hj0 rfl
      omega
    · exact absurd (hP k q (hin k q hq)).lt (Nat.not_lt.mpr hz)
  have hP2 : va_P D vwCl (xl_w aC ρ2 σ (h0 ++ h')) H1 := by
    rw [ew]
    exact va_P.app (fun k q hq => (hP k q (hin k q hq)).kept (hk1 _ (hP k q (hin k q hq)).lt (hap k q hq))) hP1
  have hD2 : va_D A (xl_w aC ρ2 σ (h0 ++ h')) := by
    rw [ew]
    refine va_D.app ⟨fun i j x y hx hy => hD.1 i j x y (hin i x hx) (hin j y hy), fun k q hq => hD.2 k q (hin k q hq)⟩ (hD1.weaken (fun k q _ h => g3 q.1 h)) (fun i j x y hx hy hxy => ?_)
    exact hap i x hx (by rw [hxy]; exact hD1.2 j y hy)
  have g := kk h' hPo p l e R s m args below meth c D aC ρ2 σ aV A H1 locs1 (cells + mc) (slots + ms) ls Q hX ⟨hK, hP2, hD2, hS1, hE, hA⟩ (xn_ok_L hk he hL) (by omega) (by omega)
    (fun ρ' v h' H' locs' pc' cells' slots' ls' a0 a1 a2 a3 a4 a5 => hr ρ' v h' H' locs' pc' cells' slots' ls' (fun i hi => (a0 i hi).trans (he i (by omega))) a1 a2 a3 (by omega) (by omega)) (fun ρ' h' H' locs' pc' cells' slots' ls' a0 a1 a2 a3 a4 a5 a6 => ht ρ' h' H' locs' pc' cells' slots' ls' (fun i hi => (a0 i hi).trans (he i (by omega))) a1 a2 a3 (by omega) (by omega) a6) hZ
  rw [xn_ok_st hk he] at g
  exact g
/-- what two cells say is the same -/
def xn_sm (π : Nat → Nat) (j : Nat) (c : XE) (k : Nat) (c' : XE) : Prop := ∀ (D : va_G) (aC : Nat → ClassId) (ρ σ : Nat → Nat) (a : Nat) (H : Heap), va_at D vwCl (a, xl_c aC ρ σ k c') H → va_at D vwCl (a, xl_c aC (fun k => ρ (π k)) σ j c) H
theorem xn_sm_ok {π : Nat → Nat} {j : Nat} {c : XE} (h : xl_ok π j c) : xn_sm π j c (π j) c := fun D aC ρ σ a H q => by rw [h aC ρ σ]; exact q
theorem arrV_same {cA : ClassId} {n : Nat} {f g : Nat → Value} (h : ∀ j, j < n → f j = g j) : arrV cA n f = arrV cA n g := by
  unfold arrV
  congr 1
  apply Array.ext
  · simp
  · intro i h1 h2
    simp at h1
    simp [h i h1]
theorem xn_sm_q {π : Nat → Nat} {j k n : Nat} {f g : Nat → Option Nat} (h : ∀ i, i < n → ∃ a b, f i = some a ∧ g i = some b ∧ π (j + a) = k + b) : xn_sm π j (xQ n f) k (xQ n g) := by
  intro D aC ρ σ a H q
  show H[a]? = some (arrV (aC 3) n (fun i => va_rf ((f i).map (fun d => ρ (π (j + d))))))
  have q : H[a]? = some (arrV (aC 3) n (fun i => va_rf ((g i).map (fun d => ρ (k + d))))) := q
  rw [q]
  refine congrArg some (arrV_same (fun i hi => ?_))
  obtain ⟨x, y, e1, e2, e3⟩ := h i hi
  rw [e1, e2]
  show Value.ref (ρ (k + y)) = .ref (ρ (π (j + x)))
  rw [e3]
theorem xn_perm (π : Nat → Nat) {hl : XH} (hi : ∀ i j, i < hl.length → j < hl.length → π i = π j → i = j) (hp : ∀ j c, hl[j]? = some c → ∃ c', h[π j]? = some c' ∧ xn_sm π j c (π j) c') (hN : ∀ i, i < Nn → π i = i) (k : xn_W S Nn M rc rs pc [] [] hl Po) : xn_W S Nn M rc rs pc L [] h Po := by
  intro p l e R s m args below meth c D aC ρ σ aV A H locs cells slots ls Q hX hH hL h1 h2 hr ht hZ
  obtain ⟨hK, hP, hD, hS, hE, hA⟩ := id hH
  have hap := xl_ap_of hD
  have hlt : ∀ i, i < hl.length → π i < h.length := fun i hi => by
    obtain ⟨c', e1, -⟩ := hp i _ (List.getElem?_eq_getElem hi)
    exact (List.getElem?_eq_some_iff.mp e1).1
  refine k p l e R s m args below meth c D aC (fun k => ρ (π k)) σ aV A H locs cells slots ls Q hX ⟨hK, fun j q hq => ?_, xl_D_of ⟨fun i j a b e => hi i j a b (hap.1 _ _ (hlt i a) (hlt j b) e), fun i a => hap.2 _ (hlt i a)⟩, hS, hE, hA⟩ ⟨hL.1, hL.2.1, fun i v e => by simp [xl_n] at e⟩ h1 h2
    (fun ρ' v h' H' locs' pc' cells' slots' ls' a0 => hr ρ' v h' H' locs' pc' cells' slots' ls' (fun i hi => (a0 i hi).trans (by show ρ (π i) = ρ i; rw [hN i hi]))) (fun ρ' h' H' locs' pc' cells' slots' ls' a0 => ht ρ' h' H' locs' pc' cells' slots' ls' (fun i hi => (a0 i hi).trans (by show ρ (π i) = ρ i; rw [hN i hi]))) hZ
  obtain ⟨c9, e1, rfl⟩ := xl_w_inv hq
  obtain ⟨c', e2, e3⟩ := hp j c9 e1
  exact e3 D aC ρ σ _ H (hP (π j) _ (xl_w_of e2))
/-- the same, with locals -/
theorem xn_permL (π : Nat → Nat) {hl : XH} {L' : List (Option Value)} (hi : ∀ i j, i < hl.length → j < hl.length → π i = π j → i = j) (hp : ∀ j c, hl[j]? = some c → ∃ c', h[π j]? = some c' ∧ xn_sm π j c (π j) c') (hN : ∀ i, i < Nn → π i = i) (hL0 : ∀ (ρ σ : Nat → Nat) (i : Nat) (v : Value), xl_n L' i = some (some v) → ∃ w, xl_n L i = some (some w) ∧ xl_v (fun k => ρ (π k)) σ v = xl_v ρ σ w) (k : xn_W S Nn M rc rs pc L' [] hl Po) : xn_W S Nn M rc rs pc L [] h Po := by
  intro p l e R s m args below meth c D aC ρ σ aV A H locs cells slots ls Q hX hH hL h1 h2 hr ht hZ
  obtain ⟨hK, hP, hD, hS, hE, hA⟩ := id hH
  have hap := xl_ap_of hD
  have hlt : ∀ i, i < hl.length → π i < h.length := fun i hi => by
    obtain ⟨c', e1, -⟩ := hp i _ (List.getElem?_eq_getElem hi)
    exact (List.getElem?_eq_some_iff.mp e1).1
  refine k p l e R s m args below meth c D aC (fun k => ρ (π k)) σ aV A H locs cells slots ls Q hX ⟨hK, fun j q hq => ?_, xl_D_of ⟨fun i j a b e => hi i j a b (hap.1 _ _ (hlt i a) (hlt j b) e), fun i a => hap.2 _ (hlt i a)⟩, hS, hE, hA⟩ ⟨hL.1, hL.2.1, fun i v e => ?_⟩ h1 h2
    (fun ρ' v h' H' locs' pc' cells' slots' ls' a0 => hr ρ' v h' H' locs' pc' cells' slots' ls' (fun i hi => (a0 i hi).trans (by show ρ (π i) = ρ i; rw [hN i hi]))) (fun ρ' h' H' locs' pc' cells' slots' ls' a0 => ht ρ' h' H' locs' pc' cells' slots' ls' (fun i hi => (a0 i hi).trans (by show ρ (π i) = ρ i; rw [hN i hi]))) hZ
  · obtain ⟨c9, e1, rfl⟩ := xl_w_inv hq
    obtain ⟨c', e2, e3⟩ := hp j c9 e1
    exact e3 D aC ρ σ _ H (hP (π j) _ (xl_w_of e2))
  · obtain ⟨w, e1, e2⟩ := hL0 ρ σ i v e
    rw [e2]
    exact hL.2.2 i w e1
end XV
