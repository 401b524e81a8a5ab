/-! ===== calls in a method that makes cells ===== -/
section XNC
variable {S : XS} {Nn : Nat}
variable {p : Program} {l : Launch} {e : Env} {R : Room} {s : State} {m : MethodId} {args : Array Value} {below : List Frame} {meth : Method} {c : Code} {H : Heap} {locs : List Loc} {cells slots : Nat} {Q : State → Prop}
variable {M μ : XI} {rc rs pc pc2 mc ms : Nat} {L : List (Option Value)} {st rest : List Value} {h hl : XH} {Po : Option (Option Value) → XH → Prop} {Po' : Option Value → XH → Prop}
theorem xn_callV (π : Nat → Nat) {ci r : Nat} {fs : List Value} {As As' : List Value} (d : xl_Ca M pc μ pc2) (hv : xl_V μ) (hcl : ∃ T N, vwCl[ci]? = some (μ.1.cls, T, N)) (hh : xl_n h r = some (.inr (ci, fs))) (hst : st = As.reverse ++ .ref r :: rest) (hn : As.length = μ.2.2.2.2.2.2) (hw : (rest.map fun v => if xl_1 v = true then 1 else 2).sum ≤ 8) (hAs : ∀ ρ σ : Nat → Nat, (Value.ref r :: As).map (xl_v ρ σ) = As'.map (xl_v (fun k => ρ (π k)) σ))
    (hp : xl_pi π h hl) (hok : ∀ j c, hl[j]? = some c → xl_ok π j c) (hc : xl_C μ mc ms As' hl Po') (hlen : ∀ v h', Po' v h' → h'.length = hl.length ∧ (∀ j c, h'[j]? = some c → xl_ok π j c) ∧ ∀ a, v ≠ some (.ref a))
    (kk : ∀ v h' h1, Po' v h' → xl_back π hl.length h h' h1 → xn_W S Nn M rc rs pc2 L (v.toList ++ rest) h1 Po) : xn_W S Nn M (rc + mc) (rs + ms) pc L st h Po := by
  obtain ⟨i, d, rfl, d3, d4, d5⟩ := d
  obtain ⟨T, N, hcl⟩ := hcl
  subst hst
  intro p l e R s m args below meth c D aC ρ σ aV A H locs cells slots ls Q hX hH hL h1 h2 hr ht hZ
  obtain ⟨hK, hP, hD, hS, hE, hA⟩ := id hH
  obtain ⟨g1, g2, g3⟩ := xl_part hH hp hok
  rw [xl_n_eq] at hh
  have hrecv := va_recv hK hP hcl (xl_w_of hh)
  have hcw : CallW R s args M.1.cls μ.1.cls i μ.1 μ.2.1 μ.2.2.1 μ.2.2.2.1 (xl_ws μ) (xl_rm μ mc ms) mc ms μ.2.2.2.2.2.2 := ⟨xl_callB hX.2.2.2.2.2.1 hv.1 d3 (Nat.le_trans d4 hX.2.2.2.2.2.2.2.1) (Nat.le_trans d5 hX.2.2.2.2.2.2.2.2.1), hX.2.2.2.2.2.1 _ hv.2.1, hX.2.2.2.2.2.1 _ hv.2.2⟩
  have hcat : ∀ l : List Value, (l.map (xl_v ρ σ)).map (fun v => v.category) = l.map fun v => if xl_1 v = true then 1 else 2 := by
    intro l
    rw [List.map_map]
    apply List.map_congr_left
    intro v _
    show (xl_v ρ σ v).category = _
    by_cases hv1 : xl_1 v = true
    · rw [if_pos hv1, xl_1c hv1]
    · rw [if_neg hv1, xl_1d hv1]
  have hrun := va_runV (As := As.map (xl_v ρ σ)) (rest := rest.map (xl_v ρ σ)) (g := F0 m pc ls ((As.reverse ++ .ref r :: rest).map (xl_v ρ σ))) (H := H) (locs := locs) (cells := cells) (slots := slots) (e := e) (below := below) (meth := meth) (b := ρ r) (C := μ.1.cls) ⟨hX.1, hX.2.1, hX.2.2.2.1, hX.2.2.2.2.1, hX.2.2.2.2.2.1⟩ (hc l hX.2.2.2.2.2.2.2.2.2 D aC (fun k => ρ (π k)) σ aV H.size) hcw
    ⟨xl_blind, hrecv, fun U hU hW => xl_ready hH hp hok hU hW (hAs ρ σ)⟩ rfl (by rw [List.length_map]; exact hn) hL.1 (by simp [xl_v]) (lv_room (by rw [hcat]; exact hw)) d ⟨by omega, by omega⟩
  refine xl_after hrun hS (fun q _ hq => g3 q hq) g3 (fun v h' H1 locs1 hPo hP1 hD1 hz1 hk1 hS1 => ?_)
  obtain ⟨q1, q2, q3⟩ := hlen v h' hPo
  have hback : ∃ h1, xl_back π hl.length h h' h1 := by
    refine ⟨h.mapIdx (fun k c => if hx : ∃ j, j < hl.length ∧ π j = k then (h'[hx.choose]?).getD c else c), by simp, fun j hj => ?_, fun k hk => ?_⟩
    · have hx : ∃ j', j' < hl.length ∧ π j' = π j := ⟨j, hj, rfl⟩
      have hcj : hx.choose = j := hp.1 _ _ hx.choose_spec.1 hj hx.choose_spec.2
      obtain ⟨g4, g5⟩ := hp.2 j hj
      rw [List.getElem?_mapIdx, List.getElem?_eq_getElem g5]
      simp only [Option.map_some]
      rw [dif_pos hx, hcj, List.getElem?_eq_getElem (by omega)]
      rfl
    · rw [List.getElem?_mapIdx]
      cases hhk : h[k]? with
      | none => rfl
      | some c =>
        simp only [Option.map_some]
        rw [dif_neg (fun ⟨j, hj, ej⟩ => hk j hj ej)]
  obtain ⟨h1', hb⟩ := hback
  have hH1 := xl_joined hH hp hb q1 q2 hP1 hk1 hS1
  have := kk v h' h1' hPo hb p l e R s m args below meth c D aC ρ σ aV A H1 locs1 (cells + mc) (slots + ms) ls Q hX hH1 hL (by omega) (by omega) (fun ρ' v h' H' locs' pc' cells' slots' ls' a0 a1 a2 a3 a4 a5 => hr ρ' v h' H' locs' pc' cells' slots' ls' a0 a1 a2 a3 (by omega) (by omega)) (fun ρ' h' H' locs' pc' cells' slots' ls' a0 a1 a2 a3 a4 a5 a6 => ht ρ' h' H' locs' pc' cells' slots' ls' a0 a1 a2 a3 (by omega) (by omega) a6) hZ
  rw [List.map_append] at this
  have ev : (v.map (xl_v (fun k => ρ (π k)) σ)).toList = v.toList.map (xl_v ρ σ) := by
    cases v with
    | none => rfl
    | some v => cases v <;> first | rfl | exact absurd rfl (q3 _)
  rw [ev]
  exact this
theorem xn_callS (π : Nat → Nat) {As As' : List Value} (d : xl_Cs M pc μ pc2) (hv : xl_U μ) (hst : st = As.reverse ++ rest) (hn : As.length = μ.2.2.2.2.2.2) (hw : (rest.map fun v => if xl_1 v = true then 1 else 2).sum ≤ 8) (hAs : ∀ ρ σ : Nat → Nat, As.map (xl_v ρ σ) = As'.map (xl_v (fun k => ρ (π k)) σ))
    (hp : xl_pi π h hl) (hok : ∀ j c, hl[j]? = some c → xl_ok π j c) (hc : xl_C μ mc ms As' hl Po') (hlen : ∀ v h', Po' v h' → h'.length = hl.length ∧ (∀ j c, h'[j]? = some c → xl_ok π j c) ∧ ∀ a, v ≠ some (.ref a))
    (kk : ∀ v h' h1, Po' v h' → xl_back π hl.length h h' h1 → xn_W S Nn M rc rs pc2 L (v.toList ++ rest) h1 Po) : xn_W S Nn M (rc + mc) (rs + ms) pc L st h Po := by
  obtain ⟨i, d, rfl, d3, d4, d5⟩ := d
  subst hst
  intro p l e R s m args below meth c D aC ρ σ aV A H locs cells slots ls Q hX hH hL h1 h2 hr ht hZ
  obtain ⟨hK, hP, hD, hS, hE, hA⟩ := id hH
  obtain ⟨g1, g2, g3⟩ := xl_part hH hp hok
  have hcw : CallB R s args M.1.cls i μ.1 μ.2.1 μ.2.2.1 μ.2.2.2.1 (xl_ws μ) (xl_rm μ mc ms) mc ms μ.2.2.2.2.2.2 ∧ (Cond.static μ.1).before args s = true := ⟨xl_callB hX.2.2.2.2.2.1 hv.1 d3 (Nat.le_trans d4 hX.2.2.2.2.2.2.2.1) (Nat.le_trans d5 hX.2.2.2.2.2.2.2.2.1), hX.2.2.2.2.2.1 _ hv.2⟩
  have hcat : ∀ l : List Value, (l.map (xl_v ρ σ)).map (fun v => v.category) = l.map fun v => if xl_1 v = true then 1 else 2 := by
    intro l
    rw [List.map_map]
    apply List.map_congr_left
    intro v _
    show (xl_v ρ σ v).category = _
    by_cases hv1 : xl_1 v = true
    · rw [if_pos hv1, xl_1c hv1]
    · rw [if_neg hv1, xl_1d hv1]
  have hrun := va_runS (As := As.map (xl_v ρ σ)) (rest := rest.map (xl_v ρ σ)) (g := F0 m pc ls ((As.reverse ++ rest).map (xl_v ρ σ))) (H := H) (locs := locs) (cells := cells) (slots := slots) (e := e) (below := below) (meth := meth) ⟨hX.1, hX.2.1, hX.2.2.2.1, hX.2.2.2.2.1, hX.2.2.2.2.2.1⟩ (hc l hX.2.2.2.2.2.2.2.2.2 D aC (fun k => ρ (π k)) σ aV H.size) hcw
    ⟨xl_blind, fun U hU hW => xl_ready hH hp hok hU hW (hAs ρ σ)⟩ rfl (by rw [List.length_map]; exact hn) hL.1 (by simp [xl_v]) (lv_room (by rw [hcat]; exact hw)) d ⟨by omega, by omega⟩
  refine xl_after hrun hS (fun q _ hq => g3 q hq) g3 (fun v h' H1 locs1 hPo hP1 hD1 hz1 hk1 hS1 => ?_)
  obtain ⟨q1, q2, q3⟩ := hlen v h' hPo
  have hback : ∃ h1, xl_back π hl.length h h' h1 := by
    refine ⟨h.mapIdx (fun k c => if hx : ∃ j, j < hl.length ∧ π j = k then (h'[hx.choose]?).getD c else c), by simp, fun j hj => ?_, fun k hk => ?_⟩
    · have hx : ∃ j', j' < hl.length ∧ π j' = π j := ⟨j, hj, rfl⟩
      have hcj : hx.choose = j := hp.1 _ _ hx.choose_spec.1 hj hx.choose_spec.2
      obtain ⟨g4, g5⟩ := hp.2 j hj
      rw [List.getElem?_mapIdx, List.getElem?_eq_getElem g5]
      simp only [Option.map_some]
      rw [dif_pos hx, hcj, List.getElem?_eq_getElem (by omega)]
      rfl
    · rw [List.getElem?_mapIdx]
      cases hhk : h[k]? with
      | none => rfl
      | some c =>
        simp only [Option.map_some]
        rw [dif_neg (fun ⟨j, hj, ej⟩ => hk j hj ej)]
  obtain ⟨h1', hb⟩ := hback
  have hH1 := xl_joined hH hp hb q1 q2 hP1 hk1 hS1
  have := kk v h' h1' hPo hb p l e R s m args below meth c D aC ρ σ aV A H1 locs1 (cells + mc) (slots + ms) ls Q hX hH1 hL (by omega) (by omega) (fun ρ' v h' H' locs' pc' cells' slots' ls' a0 a1 a2 a3 a4 a5 => hr ρ' v h' H' locs' pc' cells' slots' ls' a0 a1 a2 a3 (by omega) (by omega)) (fun ρ' h' H' locs' pc' cells' slots' ls' a0 a1 a2 a3 a4 a5 a6 => ht ρ' h' H' locs' pc' cells' slots' ls' a0 a1 a2 a3 (by omega) (by omega) a6) hZ
  rw [List.map_append] at this
  have ev : (v.map (xl_v (fun k => ρ (π k)) σ)).toList = v.toList.map (xl_v ρ σ) := by
    cases v with
    | none => rfl
    | some v => cases v <;> first | rfl | exact absurd rfl (q3 _)
  rw [ev]
  exact this
theorem xn_max {a b : Int32} (d : xl_Cm M pc Lib.Math.max.name Lib.Math.max.code pc2) (hw : (rest.map fun v => if xl_1 v = true then 1 else 2).sum ≤ 8) (kk : xn_W S Nn M rc rs pc2 L (.int (if a < b then b else a) :: rest) h Po) : xn_W S Nn M rc rs pc L (.int b :: .int a :: rest) h Po := by
  obtain ⟨i, d, rfl, d3, d4, d5, d6, d7, d8⟩ := d
  intro p l e R s m args below meth c D aC ρ σ aV A H locs cells slots ls Q hX hH hL h1 h2 hr ht hZ
  have hT := hX.2.2.2.2.2.1
  exact va_mmax hX.1 hX.2.1 (hX.2.2.2.1.trans hL.1.symm) hX.2.2.2.2.1 (hT _ d3) (hT _ d4) (hT _ d5) (hT _ d6) (Nat.le_trans d7 hX.2.2.2.2.2.2.2.1) (by rw [xl_cats]; have := hX.2.2.2.2.2.2.2.2.1; omega) (by omega) (by omega) d (kk p l e R s m args below meth c D aC ρ σ aV A H locs cells slots ls Q hX hH hL h1 h2 hr ht hZ)
theorem xn_min {a b : Int32} (d : xl_Cm M pc Lib.Math.min.name Lib.Math.min.code pc2) (hw : (rest.map fun v => if xl_1 v = true then 1 else 2).sum ≤ 8) (kk : xn_W S Nn M rc rs pc2 L (.int (if b < a then b else a) :: rest) h Po) : xn_W S Nn M rc rs pc L (.int b :: .int a :: rest) h Po := by
  obtain ⟨i, d, rfl, d3, d4, d5, d6, d7, d8⟩ := d
  intro p l e R s m args below meth c D aC ρ σ aV A H locs cells slots ls Q hX hH hL h1 h2 hr ht hZ
  have hT := hX.2.2.2.2.2.1
  exact va_mmin hX.1 hX.2.1 (hX.2.2.2.1.trans hL.1.symm) hX.2.2.2.2.1 (hT _ d3) (hT _ d4) (hT _ d5) (hT _ d6) (Nat.le_trans d7 hX.2.2.2.2.2.2.2.1) (by rw [xl_cats]; have := hX.2.2.2.2.2.2.2.2.1; omega) (by omega) (by omega) d (kk p l e R s m args below meth c D aC ρ σ aV A H locs cells slots ls Q hX hH hL h1 h2 hr ht hZ)
end XNC
