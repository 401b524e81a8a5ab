/-! ===== calls: a callee sees a piece of the caller's cells, by a map of places ===== -/
/-- a call's instruction, its link, its room -/
def xl_Ca (M : XI) (pc : Nat) (μ : XI) (pc2 : Nat) : Prop := ∃ i, decode M.2.1 pc = .ok (.invokevirtual i, 3) ∧ pc + 3 = pc2 ∧ Cond.methodLink M.1.cls i μ.1 ∈ xl_T ∧ μ.2.2.2.2.1 + 1 ≤ M.2.2.2.2.1 ∧ 8 + (μ.2.2.1 + 11) + μ.2.2.2.2.2.1 ≤ M.2.2.2.2.2.1
def xl_Cs (M : XI) (pc : Nat) (μ : XI) (pc2 : Nat) : Prop := ∃ i, decode M.2.1 pc = .ok (.invokestatic i, 3) ∧ pc + 3 = pc2 ∧ Cond.methodLink M.1.cls i μ.1 ∈ xl_T ∧ μ.2.2.2.2.1 + 1 ≤ M.2.2.2.2.1 ∧ 8 + (μ.2.2.1 + 11) + μ.2.2.2.2.2.1 ≤ M.2.2.2.2.2.1
theorem xl_good (μ : XI) (hk : xl_K μ) : GoodIn xl_T (xl_ws μ) := by
  intro w hw
  have hm : w ∈ xl_T := by
    rcases List.mem_cons.mp hw with rfl | h
    · exact hk.2.1
    · exact h
  exact ⟨hm, good_of_word (xl_Tg w hm)⟩
theorem xl_callB {M μ : XI} {R : Room} {s : State} {args : Array Value} {i mc ms : Nat} (hts : ∀ w ∈ xl_T, w.before args s = true) (hk : xl_K μ) (hl : Cond.methodLink M.1.cls i μ.1 ∈ xl_T) (h1 : μ.2.2.2.2.1 + 1 ≤ R.frames) (h2 : 8 + (μ.2.2.1 + 11) + μ.2.2.2.2.2.1 ≤ R.locals) :
    CallB R s args M.1.cls i μ.1 μ.2.1 μ.2.2.1 μ.2.2.2.1 (xl_ws μ) (xl_rm μ mc ms) mc ms μ.2.2.2.2.2.2 :=
  callB_of _ hts (xl_good μ hk) rfl rfl rfl (hts _ hk.2.2.1) (hts _ hl) hk.2.2.2 ⟨h1, h2⟩
/-- the callee's cells among the caller's -/
def xl_pi (π : Nat → Nat) (h hl : XH) : Prop := (∀ i j, i < hl.length → j < hl.length → π i = π j → i = j) ∧ (∀ j, j < hl.length → h[π j]? = hl[j]? ∧ π j < h.length)
/-- what a cell means is the same on both sides -/
def xl_ok (π : Nat → Nat) (j : Nat) (c : XE) : Prop := ∀ (aC : Nat → ClassId) (ρ σ : Nat → Nat), xl_c aC (fun k => ρ (π k)) σ j c = xl_c aC ρ σ (π j) c
theorem xl_ok_add (r j : Nat) (c : XE) : xl_ok (fun k => r + k) j c := by
  intro aC ρ σ
  cases c with
  | inl a => 
    obtain ⟨t, n, f | f | f | f | f⟩ := a <;> first | rfl | (simp only [xl_c, xl_a, Nat.add_assoc])
  | inr o => simp only [xl_c, Nat.add_assoc]
/-- the caller's cells behind a call -/
def xl_back (π : Nat → Nat) (n : Nat) (h h' h1 : XH) : Prop := h1.length = h.length ∧ (∀ j, j < n → h1[π j]? = h'[j]?) ∧ ∀ k, (∀ j, j < n → π j ≠ k) → h1[k]? = h[k]?
section XCC
variable {p : Program} {l : Launch} {e : Env} {R : Room} {s : State} {m : MethodId} {args : Array Value} {below : List Frame} {meth : Method} {c : Code} {H : Heap} {locs : List Loc} {cells slots : Nat} {Q : State → Prop}
theorem xl_after {pc mc ms : Nat} {ls : Array Slot} {rest st0 : List Value} {a : Array Value} {A0 A1 free : Nat → Prop} {D : va_G} {aC : Nat → ClassId} {ρ σ : Nat → Nat} {Po : Option Value → XH → Prop}
    (hr : va_Run p l e R s m args below meth c H locs cells slots mc ms (F0 m pc ls st0) rest (xl_Qc D aC ρ σ A1 Po a) free) (hS : va_S A0 s.heap H locs) (hA : ∀ q, q < H.size → A1 q → A0 q) (hf : ∀ q, free q → A0 q)
    (kk : ∀ (v : Option Value) (h' : XH) (H1 : Heap) (locs1 : List Loc), Po v h' → va_P D vwCl (xl_w aC ρ σ h') H1 → va_D A1 (xl_w aC ρ σ h') → H.size ≤ H1.size → (∀ q : Nat, q < H.size → ¬ A1 q → H1[q]? = H[q]?) → va_S A0 s.heap H1 locs1 → W p l e R s m args below meth c H1 locs1 (cells + mc) (slots + ms) Q (F0 m (pc + 3) ls ((v.map (xl_v ρ σ)).toList ++ rest))) : W p l e R s m args below meth c H locs cells slots Q (F0 m pc ls st0) := by
  intro T hT X
  obtain ⟨v, st₀, t, T', L, h0, X', hL, e1, e2, ⟨⟨v', h', hv, hp, hP1, hK1, hD1⟩, hz, hk⟩, st⟩ := hr T hT X
  cases hv
  rw [h0] at hz hk
  obtain ⟨t2, a1, b1⟩ := kk v' h' T'.heap (locs ++ L) hp (by rw [e1]; exact hP1) hD1 (by rw [e1]; exact hz) (fun q h1 h2 => by rw [e1]; exact hk q h1 h2)
    ⟨Nat.le_trans hS.1 (by rw [e1]; exact hz), fun q h1 h2 => by rw [e1, hk q (Nat.lt_of_lt_of_le h1 hS.1) (fun z => h2 (hA q (Nat.lt_of_lt_of_le h1 hS.1) z))]; exact hS.2.1 q h1 h2, fun q hq => by
      rcases List.mem_append.mp hq with h | h
      · exact hS.2.2 q h
      · exact hf _ (hL q h)⟩ T' rfl X'
  exact ⟨t2, st t2 a1, b1⟩
end XCC
section XCD
variable {M μ : XI} {rc rs pc pc2 mc ms : Nat} {L : List (Option Value)} {st rest : List Value} {h hl : XH} {Po : Option (Option Value) → XH → Prop} {Po' : Option Value → XH → Prop}
/-- the callee's part of the world -/
theorem xl_part {D : va_G} {aC : Nat → ClassId} {ρ σ aV : Nat → Nat} {A : Nat → Prop} {s : State} {H : Heap} {locs : List Loc} {π : Nat → Nat} (hH : xl_H D aC ρ σ aV A s H locs h) (hp : xl_pi π h hl) (hok : ∀ j c, hl[j]? = some c → xl_ok π j c) :
    va_P D vwCl (xl_w aC (fun k => ρ (π k)) σ hl) H ∧ xl_ap A (fun k => ρ (π k)) hl.length ∧ ∀ q, va_A (xl_w aC (fun k => ρ (π k)) σ hl) H.size q → A q := by
  obtain ⟨hK, hP, hD, hS, hE, hA⟩ := hH
  have hap := xl_ap_of hD
  have key : ∀ (j : Nat) (c : XE), hl[j]? = some c → (xl_w aC ρ σ h)[π j]? = some (ρ (π j), xl_c aC (fun k => ρ (π k)) σ j c) := by
    intro j c hc
    have hj := (List.getElem?_eq_some_iff.mp hc).1
    rw [hok j c hc aC ρ σ]
    exact xl_w_of (by rw [(hp.2 j hj).1]; exact hc)
  refine ⟨fun k q hq => ?_, ⟨fun i j hi hj e => hp.1 i j hi hj (hap.1 _ _ (hp.2 i hi).2 (hp.2 j hj).2 e), fun i hi => hap.2 _ (hp.2 i hi).2⟩, fun q hq => ?_⟩
  · obtain ⟨c, e1, rfl⟩ := xl_w_inv hq
    exact hP (π k) _ (key k c e1)
  · rcases hq with ⟨k, e, hk⟩ | hq
    · obtain ⟨c, e1, e2⟩ := xl_w_inv hk
      have hj := (List.getElem?_eq_some_iff.mp e1).1
      rw [show q = ρ (π k) from congrArg Prod.fst e2]
      exact hap.2 _ (hp.2 k hj).2
    · exact hA q (Nat.le_trans hS.1 hq)
theorem xl_joined {D : va_G} {aC : Nat → ClassId} {ρ σ aV : Nat → Nat} {A : Nat → Prop} {s : State} {H H1 : Heap} {locs locs1 : List Loc} {π : Nat → Nat} {h' h1 : XH} (hH : xl_H D aC ρ σ aV A s H locs h) (hp : xl_pi π h hl) (hb : xl_back π hl.length h h' h1) (hlen : h'.length = hl.length) (hok : ∀ j c, h'[j]? = some c → xl_ok π j c)
    (hP1 : va_P D vwCl (xl_w aC (fun k => ρ (π k)) σ h') H1) (hk : ∀ q : Nat, q < H.size → ¬ va_A (xl_w aC (fun k => ρ (π k)) σ hl) H.size q → H1[q]? = H[q]?) (hS1 : va_S A s.heap H1 locs1) : xl_H D aC ρ σ aV A s H1 locs1 h1 := by
  obtain ⟨hK, hP, hD, hS, hE, hA⟩ := hH
  have hap := xl_ap_of hD
  refine ⟨hK, fun k q hq => ?_, xl_D_of (by rw [hb.1]; exact hap), hS1, hE, hA⟩
  obtain ⟨c, e1, rfl⟩ := xl_w_inv hq
  by_cases hin : ∃ j, j < hl.length ∧ π j = k
  · obtain ⟨j, hj, rfl⟩ := hin
    rw [hb.2.1 j hj] at e1
    rw [← hok j c e1 aC ρ σ]
    exact hP1 j _ (xl_w_of e1)
  · have hn : ∀ j, j < hl.length → π j ≠ k := fun j hj e => hin ⟨j, hj, e⟩
    rw [hb.2.2 k hn] at e1
    have hkl := (List.getElem?_eq_some_iff.mp e1).1
    have h0 := hP k _ (xl_w_of (aC := aC) (ρ := ρ) (σ := σ) e1)
    refine h0.kept (hk _ h0.lt (fun z => ?_))
    rcases z with ⟨j, e, hj⟩ | z
    · obtain ⟨c2, g1, g2⟩ := xl_w_inv hj
      have hjl := (List.getElem?_eq_some_iff.mp g1).1
      have ee : ρ k = ρ (π j) := congrArg Prod.fst g2
      exact hn j hjl (hap.1 _ _ hkl (hp.2 j hjl).2 ee).symm
    · exact absurd h0.lt (Nat.not_lt.mpr z)
theorem xl_blind {D : va_G} {aC : Nat → ClassId} {ρ σ aV : Nat → Nat} {sz : Nat} {As : List Value} : FrameBlind (xl_Pc D aC ρ σ aV sz As hl) := fun a U g mk q => by
  obtain ⟨q0, q1, qP, qK, qD, qE⟩ := q
  exact ⟨q0, q1, qP, va_K.moved (u := U) (U := U.calling g mk a) (Vm.Alike.refl U.vm) qK, qD, xl_S.same (u := U) (U := U.calling g mk a) rfl qE⟩
theorem xl_ready {D : va_G} {aC : Nat → ClassId} {ρ σ aV : Nat → Nat} {A : Nat → Prop} {s U : State} {H : Heap} {locs : List Loc} {π : Nat → Nat} {As : List Value} {av : List Value} (hH : xl_H D aC ρ σ aV A s H locs h) (hp : xl_pi π h hl) (hok : ∀ j c, hl[j]? = some c → xl_ok π j c) (hU : U.heap = H) (hW : s.WarmedH U.vm) (hAs : av = As.map (xl_v (fun k => ρ (π k)) σ)) : xl_Pc D aC (fun k => ρ (π k)) σ aV H.size As hl av.toArray U := by
  obtain ⟨g1, g2, g3⟩ := xl_part hH hp hok
  obtain ⟨hK, hP, hD, hS, hE, hA⟩ := hH
  refine ⟨by rw [hAs], by rw [hU], by rw [hU]; exact g1, va_K.moved hW.alike hK, xl_D_of ⟨g2.1, fun _ _ => trivial⟩, ?_⟩
  rw [hU]
  refine xl_S.narrow (A := A) (xl_S.moved hW (xl_S.kept hE (fun a h1 h2 => hS.2.1 a h1 h2))) g3
/-- invokevirtual -/
theorem xl_callV (π : Nat → Nat) {ci r : Nat} {fs : List Value} {As As' : List Value} (d : xl_Ca M pc μ pc2) (hv : xl_V μ) (hcl : ∃ T N, vwCl[ci]? = some (μ.1.cls, T, N)) (hh : xl_n h r = some (.inr (ci, fs))) (hst : st = As.reverse ++ .ref r :: rest) (hn : As.length = μ.2.2.2.2.2.2) (hw : (rest.map fun v => if xl_1 v = true then 1 else 2).sum ≤ 8) (hAs : ∀ ρ σ : Nat → Nat, (Value.ref r :: As).map (xl_v ρ σ) = As'.map (xl_v (fun k => ρ (π k)) σ))
    (hp : xl_pi π h hl) (hok : ∀ j c, hl[j]? = some c → xl_ok π j c) (hc : xl_C μ mc ms As' hl Po') (hlen : ∀ v h', Po' v h' → h'.length = hl.length ∧ (∀ j c, h'[j]? = some c → xl_ok π j c) ∧ ∀ a, v ≠ some (.ref a))
    (kk : ∀ v h' h1, Po' v h' → xl_back π hl.length h h' h1 → xl_W M rc rs pc2 L (v.toList ++ rest) h1 Po) : xl_W M (rc + mc) (rs + ms) pc L st h Po := by
  obtain ⟨i, d, rfl, d3, d4, d5⟩ := d
  obtain ⟨T, N, hcl⟩ := hcl
  subst hst
  intro p l e R s m args below meth c D aC ρ σ aV A H locs cells slots ls Q hX hH hL h1 h2 hr ht
  obtain ⟨hK, hP, hD, hS, hE, hA⟩ := id hH
  obtain ⟨g1, g2, g3⟩ := xl_part hH hp hok
  rw [xl_n_eq] at hh
  have hrecv := va_recv hK hP hcl (xl_w_of hh)
  have hcw : CallW R s args M.1.cls μ.1.cls i μ.1 μ.2.1 μ.2.2.1 μ.2.2.2.1 (xl_ws μ) (xl_rm μ mc ms) mc ms μ.2.2.2.2.2.2 := ⟨xl_callB hX.2.2.2.2.2.1 hv.1 d3 (Nat.le_trans d4 hX.2.2.2.2.2.2.2.1) (Nat.le_trans d5 hX.2.2.2.2.2.2.2.2.1), hX.2.2.2.2.2.1 _ hv.2.1, hX.2.2.2.2.2.1 _ hv.2.2⟩
  have hcat : ∀ l : List Value, (l.map (xl_v ρ σ)).map (fun v => v.category) = l.map fun v => if xl_1 v = true then 1 else 2 := by
    intro l
    rw [List.map_map]
    apply List.map_congr_left
    intro v _
    show (xl_v ρ σ v).category = _
    by_cases hv1 : xl_1 v = true
    · rw [if_pos hv1, xl_1c hv1]
    · rw [if_neg hv1, xl_1d hv1]
  have hrun := va_runV (As := As.map (xl_v ρ σ)) (rest := rest.map (xl_v ρ σ)) (g := F0 m pc ls ((As.reverse ++ .ref r :: rest).map (xl_v ρ σ))) (H := H) (locs := locs) (cells := cells) (slots := slots) (e := e) (below := below) (meth := meth) (b := ρ r) (C := μ.1.cls) ⟨hX.1, hX.2.1, hX.2.2.2.1, hX.2.2.2.2.1, hX.2.2.2.2.2.1⟩ (hc l hX.2.2.2.2.2.2.2.2.2 D aC (fun k => ρ (π k)) σ aV H.size) hcw
    ⟨xl_blind, hrecv, fun U hU hW => xl_ready hH hp hok hU hW (hAs ρ σ)⟩ rfl (by rw [List.length_map]; exact hn) hL.1 (by simp [xl_v]) (lv_room (by rw [hcat]; exact hw)) d ⟨by omega, by omega⟩
  refine xl_after hrun hS (fun q _ hq => g3 q hq) g3 (fun v h' H1 locs1 hPo hP1 hD1 hz1 hk1 hS1 => ?_)
  obtain ⟨q1, q2, q3⟩ := hlen v h' hPo
  have hback : ∃ h1, xl_back π hl.length h h' h1 := by
    refine ⟨h.mapIdx (fun k c => if hx : ∃ j, j < hl.length ∧ π j = k then (h'[hx.choose]?).getD c else c), by simp, fun j hj => ?_, fun k hk => ?_⟩
    · have hx : ∃ j', j' < hl.length ∧ π j' = π j := ⟨j, hj, rfl⟩
      have hcj : hx.choose = j := hp.1 _ _ hx.choose_spec.1 hj hx.choose_spec.2
      obtain ⟨g4, g5⟩ := hp.2 j hj
      rw [List.getElem?_mapIdx, List.getElem?_eq_getElem g5]
      simp only [Option.map_some]
      rw [dif_pos hx, hcj, List.getElem?_eq_getElem (by omega)]
      rfl
    · rw [List.getElem?_mapIdx]
      cases hhk : h[k]? with
      | none => rfl
      | some c =>
        simp only [Option.map_some]
        rw [dif_neg (fun ⟨j, hj, ej⟩ => hk j hj ej)]
  obtain ⟨h1', hb⟩ := hback
  have hH1 := xl_joined hH hp hb q1 q2 hP1 hk1 hS1
  have := kk v h' h1' hPo hb p l e R s m args below meth c D aC ρ σ aV A H1 locs1 (cells + mc) (slots + ms) ls Q hX hH1 hL (by omega) (by omega) (fun v h' H' locs' pc' cells' slots' ls' a1 a2 a3 a4 a5 => hr v h' H' locs' pc' cells' slots' ls' a1 a2 a3 (by omega) (by omega)) (fun h' H' locs' pc' cells' slots' ls' a1 a2 a3 a4 a5 => ht h' H' locs' pc' cells' slots' ls' a1 a2 a3 (by omega) (by omega))
  rw [List.map_append] at this
  have ev : (v.map (xl_v (fun k => ρ (π k)) σ)).toList = v.toList.map (xl_v ρ σ) := by
    cases v with
    | none => rfl
    | some v => cases v <;> first | rfl | exact absurd rfl (q3 _)
  rw [ev]
  exact this
/-- invokestatic -/
theorem xl_callS (π : Nat → Nat) {As As' : List Value} (d : xl_Cs M pc μ pc2) (hv : xl_U μ) (hst : st = As.reverse ++ rest) (hn : As.length = μ.2.2.2.2.2.2) (hw : (rest.map fun v => if xl_1 v = true then 1 else 2).sum ≤ 8) (hAs : ∀ ρ σ : Nat → Nat, As.map (xl_v ρ σ) = As'.map (xl_v (fun k => ρ (π k)) σ))
    (hp : xl_pi π h hl) (hok : ∀ j c, hl[j]? = some c → xl_ok π j c) (hc : xl_C μ mc ms As' hl Po') (hlen : ∀ v h', Po' v h' → h'.length = hl.length ∧ (∀ j c, h'[j]? = some c → xl_ok π j c) ∧ ∀ a, v ≠ some (.ref a))
    (kk : ∀ v h' h1, Po' v h' → xl_back π hl.length h h' h1 → xl_W M rc rs pc2 L (v.toList ++ rest) h1 Po) : xl_W M (rc + mc) (rs + ms) pc L st h Po := by
  obtain ⟨i, d, rfl, d3, d4, d5⟩ := d
  subst hst
  intro p l e R s m args below meth c D aC ρ σ aV A H locs cells slots ls Q hX hH hL h1 h2 hr ht
  obtain ⟨hK, hP, hD, hS, hE, hA⟩ := id hH
  obtain ⟨g1, g2, g3⟩ := xl_part hH hp hok
  have hcw : CallB R s args M.1.cls i μ.1 μ.2.1 μ.2.2.1 μ.2.2.2.1 (xl_ws μ) (xl_rm μ mc ms) mc ms μ.2.2.2.2.2.2 ∧ (Cond.static μ.1).before args s = true := ⟨xl_callB hX.2.2.2.2.2.1 hv.1 d3 (Nat.le_trans d4 hX.2.2.2.2.2.2.2.1) (Nat.le_trans d5 hX.2.2.2.2.2.2.2.2.1), hX.2.2.2.2.2.1 _ hv.2⟩
  have hcat : ∀ l : List Value, (l.map (xl_v ρ σ)).map (fun v => v.category) = l.map fun v => if xl_1 v = true then 1 else 2 := by
    intro l
    rw [List.map_map]
    apply List.map_congr_left
    intro v _
    show (xl_v ρ σ v).category = _
    by_cases hv1 : xl_1 v = true
    · rw [if_pos hv1, xl_1c hv1]
    · rw [if_neg hv1, xl_1d hv1]
  have hrun := va_runS (As := As.map (xl_v ρ σ)) (rest := rest.map (xl_v ρ σ)) (g := F0 m pc ls ((As.reverse ++ rest).map (xl_v ρ σ))) (H := H) (locs := locs) (cells := cells) (slots := slots) (e := e) (below := below) (meth := meth) ⟨hX.1, hX.2.1, hX.2.2.2.1, hX.2.2.2.2.1, hX.2.2.2.2.2.1⟩ (hc l hX.2.2.2.2.2.2.2.2.2 D aC (fun k => ρ (π k)) σ aV H.size) hcw
    ⟨xl_blind, fun U hU hW => xl_ready hH hp hok hU hW (hAs ρ σ)⟩ rfl (by rw [List.length_map]; exact hn) hL.1 (by simp [xl_v]) (lv_room (by rw [hcat]; exact hw)) d ⟨by omega, by omega⟩
  refine xl_after hrun hS (fun q _ hq => g3 q hq) g3 (fun v h' H1 locs1 hPo hP1 hD1 hz1 hk1 hS1 => ?_)
  obtain ⟨q1, q2, q3⟩ := hlen v h' hPo
  have hback : ∃ h1, xl_back π hl.length h h' h1 := by
    refine ⟨h.mapIdx (fun k c => if hx : ∃ j, j < hl.length ∧ π j = k then (h'[hx.choose]?).getD c else c), by simp, fun j hj => ?_, fun k hk => ?_⟩
    · have hx : ∃ j', j' < hl.length ∧ π j' = π j := ⟨j, hj, rfl⟩
      have hcj : hx.choose = j := hp.1 _ _ hx.choose_spec.1 hj hx.choose_spec.2
      obtain ⟨g4, g5⟩ := hp.2 j hj
      rw [List.getElem?_mapIdx, List.getElem?_eq_getElem g5]
      simp only [Option.map_some]
      rw [dif_pos hx, hcj, List.getElem?_eq_getElem (by omega)]
      rfl
    · rw [List.getElem?_mapIdx]
      cases hhk : h[k]? with
      | none => rfl
      | some c =>
        simp only [Option.map_some]
        rw [dif_neg (fun ⟨j, hj, ej⟩ => hk j hj ej)]
  obtain ⟨h1', hb⟩ := hback
  have hH1 := xl_joined hH hp hb q1 q2 hP1 hk1 hS1
  have := kk v h' h1' hPo hb p l e R s m args below meth c D aC ρ σ aV A H1 locs1 (cells + mc) (slots + ms) ls Q hX hH1 hL (by omega) (by omega) (fun v h' H' locs' pc' cells' slots' ls' a1 a2 a3 a4 a5 => hr v h' H' locs' pc' cells' slots' ls' a1 a2 a3 (by omega) (by omega)) (fun h' H' locs' pc' cells' slots' ls' a1 a2 a3 a4 a5 => ht h' H' locs' pc' cells' slots' ls' a1 a2 a3 (by omega) (by omega))
  rw [List.map_append] at this
  have ev : (v.map (xl_v (fun k => ρ (π k)) σ)).toList = v.toList.map (xl_v ρ σ) := by
    cases v with
    | none => rfl
    | some v => cases v <;> first | rfl | exact absurd rfl (q3 _)
  rw [ev]
  exact this
/-- Math.max, Math.min, System.arraycopy -/
def xl_Cm (M : XI) (pc : Nat) (y : MethodName) (cc : ByteArray) (pc2 : Nat) : Prop := ∃ i, decode M.2.1 pc = .ok (.invokestatic i, 3) ∧ pc + 3 = pc2 ∧ Cond.methodLink M.1.cls i y ∈ xl_T ∧ Cond.static y ∈ xl_T ∧ Cond.initialized "java/lang/Math" ∈ xl_T ∧ Cond.code y cc 2 (some .int) ∈ xl_T ∧ 1 ≤ M.2.2.2.2.1 ∧ 21 ≤ M.2.2.2.2.2.1
theorem xl_cats (ρ σ : Nat → Nat) (l : List Value) : (l.map (xl_v ρ σ)).map (fun v => v.category) = l.map fun v => if xl_1 v = true then 1 else 2 := by
  rw [List.map_map]
  apply List.map_congr_left
  intro v _
  show (xl_v ρ σ v).category = _
  by_cases hv1 : xl_1 v = true
  · rw [if_pos hv1, xl_1c hv1]
  · rw [if_neg hv1, xl_1d hv1]
theorem xl_max {a b : Int32} (d : xl_Cm M pc Lib.Math.max.name Lib.Math.max.code pc2) (hw : (rest.map fun v => if xl_1 v = true then 1 else 2).sum ≤ 8) (kk : xl_W M rc rs pc2 L (.int (if a < b then b else a) :: rest) h Po) : xl_W M rc rs pc L (.int b :: .int a :: rest) h Po := by
  obtain ⟨i, d, rfl, d3, d4, d5, d6, d7, d8⟩ := d
  intro p l e R s m args below meth c D aC ρ σ aV A H locs cells slots ls Q hX hH hL h1 h2 hr ht
  have hT := hX.2.2.2.2.2.1
  exact va_mmax hX.1 hX.2.1 (hX.2.2.2.1.trans hL.1.symm) hX.2.2.2.2.1 (hT _ d3) (hT _ d4) (hT _ d5) (hT _ d6) (Nat.le_trans d7 hX.2.2.2.2.2.2.2.1) (by rw [xl_cats]; have := hX.2.2.2.2.2.2.2.2.1; omega) (by omega) (by omega) d (kk p l e R s m args below meth c D aC ρ σ aV A H locs cells slots ls Q hX hH hL h1 h2 hr ht)
theorem xl_min {a b : Int32} (d : xl_Cm M pc Lib.Math.min.name Lib.Math.min.code pc2) (hw : (rest.map fun v => if xl_1 v = true then 1 else 2).sum ≤ 8) (kk : xl_W M rc rs pc2 L (.int (if b < a then b else a) :: rest) h Po) : xl_W M rc rs pc L (.int b :: .int a :: rest) h Po := by
  obtain ⟨i, d, rfl, d3, d4, d5, d6, d7, d8⟩ := d
  intro p l e R s m args below meth c D aC ρ σ aV A H locs cells slots ls Q hX hH hL h1 h2 hr ht
  have hT := hX.2.2.2.2.2.1
  exact va_mmin hX.1 hX.2.1 (hX.2.2.2.1.trans hL.1.symm) hX.2.2.2.2.1 (hT _ d3) (hT _ d4) (hT _ d5) (hT _ d6) (Nat.le_trans d7 hX.2.2.2.2.2.2.2.1) (by rw [xl_cats]; have := hX.2.2.2.2.2.2.2.2.1; omega) (by omega) (by omega) d (kk p l e R s m args below meth c D aC ρ σ aV A H locs cells slots ls Q hX hH hL h1 h2 hr ht)
def xl_Cy (M : XI) (pc pc2 : Nat) : Prop := ∃ i, decode M.2.1 pc = .ok (.invokestatic i, 3) ∧ pc + 3 = pc2 ∧ Cond.methodLink M.1.cls i arraycopyName ∈ xl_T ∧ Cond.native arraycopyName ∈ xl_T ∧ Cond.static arraycopyName ∈ xl_T ∧ Cond.initialized "java/lang/System" ∈ xl_T ∧ 1 ≤ M.2.2.2.2.1 ∧ 31 ≤ M.2.2.2.2.2.1
theorem xl_copy {r0 r1 n0 n1 : Nat} {f g : Nat → Int32} {sp dp n : Int32} (d : xl_Cy M pc pc2) (hh0 : xl_n h r0 = some (.inl (0, n0, .inl f))) (hh1 : xl_n h r1 = some (.inl (0, n1, .inl g))) (q1 : ¬ sp < 0) (q2 : ¬ dp < 0) (q3 : ¬ n < 0) (q4 : sp.toNatClampNeg + n.toNatClampNeg ≤ n0) (q5 : dp.toNatClampNeg + n.toNatClampNeg ≤ n1) (hw : (rest.map fun v => if xl_1 v = true then 1 else 2).sum ≤ 8)
    (kk : xl_W M rc rs pc2 L rest (xl_s h r1 (.inl (0, n1, .inl (va_cpy f g sp.toNatClampNeg dp.toNatClampNeg n.toNatClampNeg)))) Po) : xl_W M rc rs pc L (.int n :: .int dp :: .ref r1 :: .int sp :: .ref r0 :: rest) h Po := by
  obtain ⟨i, d, rfl, d3, d4, d5, d6, d7, d8⟩ := d
  intro p l e R s m args below meth c D aC ρ σ aV A H locs cells slots ls Q hX hH hL h1 h2 hr ht
  obtain ⟨hK, hP, hD, hS, hE, hA⟩ := id hH
  have hT := hX.2.2.2.2.2.1
  rw [xl_n_eq] at hh0 hh1
  have hlo : ((rest.map (xl_v ρ σ)).map fun v => v.category).sum + (nativeFrameWords "java/lang/System" "arraycopy" 5 + 11) ≤ R.locals := by
    have e : nativeFrameWords "java/lang/System" "arraycopy" 5 = 7 := by decide +kernel
    have := hX.2.2.2.2.2.2.2.2.1
    rw [xl_cats, e]
    omega
  refine va_copyi (ty := .int) hX.1 hX.2.1 (hX.2.2.2.1.trans hL.1.symm) hX.2.2.2.2.1 (hT _ d3) (hT _ d4) (hT _ d5) (hT _ d6) hK hP hD hS r0 r1 0 0 (xl_w_of hh0) (xl_w_of hh1) rfl rfl rfl q1 q2 q3 q4 q5 (fun _ _ => rfl) (Nat.le_trans d7 hX.2.2.2.2.2.2.2.1) hlo d (fun H1 locs1 hP1 hD1 hS1 => ?_)
  exact kk p l e R s m args below meth c D aC ρ σ aV A H1 locs1 cells slots ls Q hX ⟨hK, by rw [xl_w_s]; exact hP1, by rw [xl_w_s]; exact hD1, hS1, hE, hA⟩ hL h1 h2 hr ht
end XCD
