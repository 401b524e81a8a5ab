/-! ===== the law's helpers: an answer, or 1 where the class throws ===== -/
def wr_rm : Room := { frames := 7, cells := 1, slots := 6, locals := 130 }
def wr_ws (M : XI) (hh : List (Nat × Nat × Nat × Nat)) : List Cond := .codeWith M.1 M.2.1 M.2.2.1 M.2.2.2.1 hh :: xl_T
def wr_C (M : XI) (hh : List (Nat × Nat × Nat × Nat)) (As : List Value) (h : XH) (Po : Option Value → XH → Prop) : Prop :=
  ∀ (l : Launch), l.flags = flags0 → ∀ (D : va_G) (aC : Nat → ClassId) (ρ σ aV : Nat → Nat) (sz : Nat), Met l M.1 (wr_ws M hh) wr_rm (xt_Pc D aC ρ σ aV sz As h) (xl_Qc D aC ρ σ (va_A (xl_w aC ρ σ h) sz) Po) 1 6 (va_A (xl_w aC ρ σ h) sz)
theorem xt_blind {hl : XH} {D : va_G} {aC : Nat → ClassId} {ρ σ aV : Nat → Nat} {sz : Nat} {As : List Value} : FrameBlind (xt_Pc D aC ρ σ aV sz As hl) := fun a U g mk q => by
  obtain ⟨q0, ⟨q1, qP, qK, qD, qE⟩, q2⟩ := q
  exact ⟨q0, ⟨q1, qP, va_K.moved (u := U) (U := U.calling g mk a) (Vm.Alike.refl U.vm) qK, qD, xl_S.same (u := U) (U := U.calling g mk a) rfl qE⟩, xt_E.same (U := U.calling g mk a) q2 rfl rfl⟩
theorem xt_ready {D : va_G} {aC : Nat → ClassId} {ρ σ aV : Nat → Nat} {A : Nat → Prop} {s U : State} {H : Heap} {locs : List Loc} {π : Nat → Nat} {h hl : XH} {As : List Value} {av : List Value} (hH : xl_H D aC ρ σ aV A s H locs h) (hX : xt_E A s) (hp : xl_pi π h hl) (hok : ∀ j c, hl[j]? = some c → xl_ok π j c) (hU : U.heap = H) (hW : s.WarmedH U.vm) (hAs : av = As.map (xl_v (fun k => ρ (π k)) σ)) : xt_Pc D aC (fun k => ρ (π k)) σ aV H.size As hl av.toArray U := by
  have q := xl_ready hH hp hok hU hW hAs
  obtain ⟨g1, g2, g3⟩ := xl_part hH hp hok
  exact ⟨q.1, q.2, xt_E.go hX hW (fun a h1 h2 => by rw [hU]; exact hH.2.2.2.1.2.1 a h1 h2) g3⟩
theorem lenO (x : LSt) (out : Nat → Int) : (encL x ++ [xL 1 out]).length = 138 := by rw [List.length_append, lenL137]; rfl
theorem atO (x : LSt) (out : Nat → Int) : xl_n (encL x ++ [xL 1 out]) 137 = some (xL 1 out) := by
  have := xl_n_mid (encL x) (xL 1 out) []
  rw [lenL137] at this
  exact this
theorem setO (x : LSt) (out : Nat → Int) (c : XE) : xl_s (encL x ++ [xL 1 out]) 137 c = encL x ++ [c] := by
  have := xl_s_mid (encL x) (xL 1 out) c []
  rw [lenL137] at this
  exact this

def wr2_F (M μ : XI) (i : Nat) : Prop := plainName M.1.cls = true ∧ M.1.cls = RL ∧ M.2.2.1 = 5 ∧ M.2.2.2.1 = some .int ∧ xl_D M 0 (.aload_n 3) 1 1 ∧ xl_D M 1 (.iconst 0) 1 2 ∧ xl_D M 2 (.aload_n 0) 1 3 ∧ xl_D M 3 (.iload_n 1) 1 4 ∧ xl_D M 4 (.iload_n 2) 1 5 ∧ decode M.2.1 5 = .ok (.invokevirtual i, 3) ∧ xl_D M 8 .i2l 1 9 ∧ xl_D M 9 .lastore 1 10 ∧ xl_J M 10 (fun o => .goto o) 13 17 ∧ decode M.2.1 13 = .ok (.astore 4, 2) ∧ decode M.2.1 15 = .ok (.iconst 1, 1) ∧ decode M.2.1 16 = .ok (.ireturn, 1) ∧ xl_D M 17 (.iconst 0) 1 18 ∧ xl_D M 18 .ireturn 1 19 ∧ Cond.methodLink RL i μ.1 ∈ xl_T
set_option maxRecDepth 10000 in
theorem wr2_con {M μ : XI} {i : Nat} (F : wr2_F M μ i) (hv : xl_V μ) (hcl : μ.1.cls = RX2) (hnp : μ.2.2.2.2.2.2 = 2) (hml5 : μ.2.2.1 ≤ 6) (a b : Int) (x : LSt) (out : Nat → Int) {PP : Option (Option Value) → XH → Prop} {Ok : Int → Prop} {Bad : Prop} (hm : xt_C μ [.ref 0, xi a, xi b] (encL x) PP) (hP1 : ∀ v h', PP (some v) h' → ∃ z, xb z ∧ Ok z ∧ v = some (xi z) ∧ h' = encL x) (hP2 : ∀ h', PP none h' → Bad ∧ h' = encL x) :
    wr_C M [(0, 10, 13, 13)] [.ref 0, xi a, xi b, .ref 137] (encL x ++ [xL 1 out]) (fun v h' => (∃ z, xb z ∧ Ok z ∧ v = some (xi 0) ∧ h' = encL x ++ [xL 1 (xup out 0 z)]) ∨ (Bad ∧ v = some (xi 1) ∧ h' = encL x ++ [xL 1 out])) := by
  obtain ⟨f0, f1, f2, f3, f4, f5, f6, f7, f8, f9, f10, f11, f12, f13, f14, f15, f16, f17, f18⟩ := F
  intro l hl D aC ρ σ aV sz
  refine va_MetW (cc := M.2.1) (maxL := M.2.2.1) (ret := M.2.2.2.1) (hh := [(0, 10, 13, 13)]) f0 rfl ?_
  intro p e s m args below meth c s₁ B hml hv0
  obtain ⟨rfl, ⟨hsz, hP, hK, hD0, hE⟩, hX⟩ := hv0
  have hts := atoms_spec (ws := wr_ws M [(0, 10, 13, 13)]) B.pre
  have hT : ∀ w ∈ xl_T, w.before _ s = true := fun w hw => hts w (List.mem_cons_of_mem _ hw)
  have hown : s.vm.findClass M.1.cls = some m.cls := findClass_of_methodNamed B.named
  have hownL : s.vm.findClass RL = some m.cls := by rw [← f1]; exact hown
  have hlocks := B.notSynchronized
  have htab : c.exceptionTable.toList = tableOf [(0, 10, 13, 13)] := vx_table (x := M.1) B (hts _ List.mem_cons_self)
  subst hsz
  have hD := hD0.self (sz := s.heap.size)
  have hl0 := lv_entry ([Value.ref 0, xi a, xi b, .ref 137].map (xl_v ρ σ)) (n := M.2.2.1) (by rw [xl_z_eq, f2]; exact Nat.le_of_ble_eq_true rfl)
  generalize hAe : va_A (xl_w aC ρ σ (encL x ++ [xL 1 out])) s.heap.size = A at hD hE hX ⊢
  have hA : ∀ q : Nat, s.heap.size ≤ q → A q := fun q h => by rw [← hAe]; exact Or.inr h
  have hS : va_S A s.heap s.heap [] := va_S.rf
  have hH : xl_H D aC ρ σ aV A s s.heap [] (encL x ++ [xL 1 out]) := ⟨hK, hP, hD, hS, hE, hA⟩
  rw [lg_entry_eq]
  generalize hgl : (lg_sl ([Value.ref 0, xi a, xi b, .ref 137].map (xl_v ρ σ)) ++ List.replicate (M.2.2.1 - (lg_sl ([Value.ref 0, xi a, xi b, .ref 137].map (xl_v ρ σ))).length) Slot.unset).toArray = ls at hl0 ⊢
  have hL : xl_L ρ σ M.2.2.1 ls [some (.ref 0), some (xi a), some (xi b), some (.ref 137), none] := by
    refine ⟨hl0.1, hl0.2.1, fun i v hi => ?_⟩
    have := xl_e_in (ρ := ρ) (σ := σ) [.ref 0, xi a, xi b, .ref 137] M.2.2.1 0 i v (by rw [f2]; exact hi)
    rw [Nat.zero_add] at this
    exact hl0.2.2 _ this
  refine lv_aload_n B.exec B.bytes f4.1 rfl (hL.2.2 3 (.ref 137) rfl) ?_
  refine lv_iconst (v := 0) B.exec B.bytes f5.1 rfl ?_
  refine lv_aload_n B.exec B.bytes f6.1 rfl (hL.2.2 0 (.ref 0) rfl) ?_
  refine lv_iload_n B.exec B.bytes f7.1 rfl (hL.2.2 1 (xi a) rfl) ?_
  refine lv_iload_n B.exec B.bytes f8.1 rfl (hL.2.2 2 (xi b) rfl) ?_
  have hp : xl_pi (fun k => 0 + k) (encL x ++ [xL 1 out]) (encL x) := xl_pi_add (by simp)
  have hok : ∀ j c, (encL x)[j]? = some c → xl_ok (fun k => 0 + k) j c := fun j c _ => xl_ok_add _ j c
  obtain ⟨g1, g2, g3⟩ := xl_part hH hp hok
  obtain ⟨fs, hrec⟩ := recL x
  have hrec2 : (encL x ++ [xL 1 out])[0]? = some (.inr (2, fs)) := by
    rw [List.getElem?_append_left (by rw [lenL137]; decide), ← xl_n_eq]
    exact hrec
  have hrecv := va_recv hK hP (show vwCl[2]? = some (RX2, TX2, 13) from rfl) (xl_w_of hrec2)
  have hcw : CallW (headSpec (wr_ws M [(0, 10, 13, 13)]) wr_rm).room s ([Value.ref 0, xi a, xi b, .ref 137].map (xl_v ρ σ)).toArray RL RX2 i μ.1 μ.2.1 μ.2.2.1 μ.2.2.2.1 (xl_ws μ) xt_rm 1 6 2 := ⟨callB_of _ hT (xl_good μ hv.1) rfl rfl rfl (hT _ hv.1.2.2.1) (hT _ f18) (by rw [← hnp]; exact hv.1.2.2.2) ⟨by show 6 + 1 ≤ 7; decide, by show 8 + (μ.2.2.1 + 11) + 100 ≤ 130; omega⟩, hT _ hv.2.1, by rw [← hcl]; exact hT _ hv.2.2⟩
  have hrun := vx_runV (As := [.int (iI a), .int (iI b)]) (rest := [.int 0, .ref (ρ 137)]) (H := s.heap) (locs := []) (cells := 0) (slots := 0) (e := e) (below := below) (meth := meth) (b := ρ 0) (C := RX2) (g := F0 m 5 ls ([.int (iI a), .int (iI b)].reverse ++ .ref (ρ 0) :: [.int 0, .ref (ρ 137)])) ⟨B.exec, B.bytes, hml, hownL, hT⟩ (hm l hl D aC (fun k => ρ (0 + k)) σ aV s.heap.size) hcw ⟨xt_blind, hrecv, fun U hU hW => xt_ready hH hX hp hok hU hW rfl⟩ rfl rfl hl0.1 rfl (lv_room (Nat.le_of_ble_eq_true rfl)) f9 ⟨by show 0 + 1 ≤ 1; decide, by show 0 + 6 ≤ 6; decide⟩
  refine xt_after hrun hS (fun q _ hq => g3 q hq) g3 (fun h' q9 ce H1 locs1 hPt hP1' hD1 hz1 hk1 hS1 hce hcv hcc => ?_) (fun v h' H1 locs1 hPo hP1' hD1 hz1 hk1 hS1 => ?_)
  · obtain ⟨hbad, rfl⟩ := hP2 h' hPt
    have hH1 := xl_joined hH hp (h1 := encL x ++ [xL 1 out]) ⟨rfl, fun j hj => (hp.2 j hj).1, fun _ _ => rfl⟩ rfl hok hP1' hk1 hS1
    obtain ⟨hK2, hP2', hD2, hS2, hE2, hA2⟩ := hH1
    refine vx_catch (own := RL) (name := nseC) (E := nseC) (ce := ce) hownL [] ((tableOf [(0, 10, 13, 13)])[0]) [] htab (fun z hz => nomatch hz) (by decide) (by decide) (hT _ ckL) (va_Nw.use rfl hX.2.2.1) hce hcv hcc ?_
    refine W.widen (k := 1) (n := 6) (by omega) (by omega) ?_
    show W p l e _ s m _ below meth c H1 locs1 1 6 _ (F0 m 13 ls [.ref q9])
    refine lv_astore B.exec B.bytes f13 hL.has (by rw [f2]; decide) rfl (fun ls' hl' => ?_)
    refine lv_iconst (v := 1) B.exec B.bytes f14 rfl ?_
    refine W.zret (ty := .int) B.exec B.bytes (B.returns.trans f3) rfl (fun t ht hW => ⟨⟨some (xi 1), encL x ++ [xL 1 out], rfl, Or.inr ⟨hbad, rfl, rfl⟩, by rw [ht]; exact hP2', va_K.moved hW.alike hK2, hD2⟩, hS2.F ht⟩) hS2.2.2 f15 hlocks
  · obtain ⟨z, hz, hOk, rfl, rfl⟩ := hP1 v h' hPo
    have hH1 := xl_joined hH hp (h1 := encL x ++ [xL 1 out]) ⟨rfl, fun j hj => (hp.2 j hj).1, fun _ _ => rfl⟩ rfl hok hP1' hk1 hS1
    have kW : xl_W (M.1, M.2.1, M.2.2.1, M.2.2.2.1, 0, 0, 0) 0 0 8 [some (.ref 0), some (xi a), some (xi b), some (.ref 137), none] [xi z, .int 0, .ref 137] (encL x ++ [xL 1 out]) (fun v h' => v = some (some (xi 0)) ∧ h' = encL x ++ [xL 1 (xup out 0 z)]) := by
      refine xl_i2l f10 <| xl_last (r := 137) (n := 1) (f := fun k => lI (out k)) (i := 0) f11 (atO x out) (iI_in (z := 0) ⟨by decide, by decide⟩ (by decide) (by decide)) <| xl_goto f12 <| xl_iconst 0 f16 rfl <| xl_ireturn f17 f3 ?_
      refine ⟨rfl, ?_⟩
      rw [setO, show ((iI z).toInt64) = lI z from iI_long hz]
      show encL x ++ [.inl (1, 1, .inr (.inl (vp_updL (fun k => lI (out k)) 0 (lI z))))] = _
      rw [xup_updL]
    refine W.widen (k := 1) (n := 6) (by omega) (by omega) ?_
    refine kW p l e _ s m _ below meth c D aC ρ σ aV A H1 locs1 1 6 ls _ ⟨B.exec, B.bytes, B.returns, hml, hown, hT, hlocks, Nat.zero_le _, Nat.zero_le _, hl⟩ hH1 hL (Nat.le_refl _) (Nat.le_refl _) (fun v h' H' locs' pc' cells' slots' ls' hPo hH' hR hc1 hc2 => ?_) (fun h' H' locs' pc' cells' slots' ls' hPo => by cases hPo.1)
    obtain ⟨ev, rfl⟩ := hPo
    cases ev
    obtain ⟨hK2, hP2', hD2, hS2, hE2, hA2⟩ := hH'
    obtain ⟨⟨ty, e1, e2⟩, e3⟩ := hR
    refine W.widen (k := 1) (n := 6) (by omega) (by omega) ?_
    exact W.zret B.exec B.bytes (B.returns.trans e1) e2 (fun t ht hW => ⟨⟨some (xi 0), _, rfl, Or.inl ⟨z, hz, hOk, rfl, rfl⟩, by rw [ht]; exact hP2', va_K.moved hW.alike hK2, hD2⟩, hS2.F ht⟩) hS2.2.2 e3 hlocks
def wr1_F (M μ : XI) (i : Nat) : Prop := plainName M.1.cls = true ∧ M.1.cls = RL ∧ M.2.2.1 = 4 ∧ M.2.2.2.1 = some .int ∧ xl_D M 0 (.aload_n 2) 1 1 ∧ xl_D M 1 (.iconst 0) 1 2 ∧ xl_D M 2 (.aload_n 0) 1 3 ∧ xl_D M 3 (.iload_n 1) 1 4 ∧ decode M.2.1 4 = .ok (.invokevirtual i, 3) ∧ xl_D M 7 .lastore 1 8 ∧ xl_J M 8 (fun o => .goto o) 11 14 ∧ decode M.2.1 11 = .ok (.astore_n 3, 1) ∧ decode M.2.1 12 = .ok (.iconst 1, 1) ∧ decode M.2.1 13 = .ok (.ireturn, 1) ∧ xl_D M 14 (.iconst 0) 1 15 ∧ xl_D M 15 .ireturn 1 16 ∧ Cond.methodLink RL i μ.1 ∈ xl_T
set_option maxRecDepth 10000 in
theorem wr1_con {M μ : XI} {i : Nat} (F : wr1_F M μ i) (hv : xl_V μ) (hcl : μ.1.cls = RX2) (hnp : μ.2.2.2.2.2.2 = 1) (hml5 : μ.2.2.1 ≤ 6) (a : Int) (x : LSt) (out : Nat → Int) {PP : Option (Option Value) → XH → Prop} {Ok : Int → Prop} {Bad : Prop} (hm : xt_C μ [.ref 0, xi a] (encL x) PP) (hP1 : ∀ v h', PP (some v) h' → ∃ z, xb z ∧ Ok z ∧ v = some (xl z) ∧ h' = encL x) (hP2 : ∀ h', PP none h' → Bad ∧ h' = encL x) :
    wr_C M [(0, 8, 11, 13)] [.ref 0, xi a, .ref 137] (encL x ++ [xL 1 out]) (fun v h' => (∃ z, xb z ∧ Ok z ∧ v = some (xi 0) ∧ h' = encL x ++ [xL 1 (xup out 0 z)]) ∨ (Bad ∧ v = some (xi 1) ∧ h' = encL x ++ [xL 1 out])) := by
  obtain ⟨f0, f1, f2, f3, f4, f5, f6, f7, f8, f9, f10, f11, f12, f13, f14, f15, f16⟩ := F
  intro l hl D aC ρ σ aV sz
  refine va_MetW (cc := M.2.1) (maxL := M.2.2.1) (ret := M.2.2.2.1) (hh := [(0, 8, 11, 13)]) f0 rfl ?_
  intro p e s m args below meth c s₁ B hml hv0
  obtain ⟨rfl, ⟨hsz, hP, hK, hD0, hE⟩, hX⟩ := hv0
  have hts := atoms_spec (ws := wr_ws M [(0, 8, 11, 13)]) B.pre
  have hT : ∀ w ∈ xl_T, w.before _ s = true := fun w hw => hts w (List.mem_cons_of_mem _ hw)
  have hown : s.vm.findClass M.1.cls = some m.cls := findClass_of_methodNamed B.named
  have hownL : s.vm.findClass RL = some m.cls := by rw [← f1]; exact hown
  have hlocks := B.notSynchronized
  have htab : c.exceptionTable.toList = tableOf [(0, 8, 11, 13)] := vx_table (x := M.1) B (hts _ List.mem_cons_self)
  subst hsz
  have hD := hD0.self (sz := s.heap.size)
  have hl0 := lv_entry ([Value.ref 0, xi a, .ref 137].map (xl_v ρ σ)) (n := M.2.2.1) (by rw [xl_z_eq, f2]; exact Nat.le_of_ble_eq_true rfl)
  generalize hAe : va_A (xl_w aC ρ σ (encL x ++ [xL 1 out])) s.heap.size = A at hD hE hX ⊢
  have hA : ∀ q : Nat, s.heap.size ≤ q → A q := fun q h => by rw [← hAe]; exact Or.inr h
  have hS : va_S A s.heap s.heap [] := va_S.rf
  have hH : xl_H D aC ρ σ aV A s s.heap [] (encL x ++ [xL 1 out]) := ⟨hK, hP, hD, hS, hE, hA⟩
  rw [lg_entry_eq]
  generalize hgl : (lg_sl ([Value.ref 0, xi a, .ref 137].map (xl_v ρ σ)) ++ List.replicate (M.2.2.1 - (lg_sl ([Value.ref 0, xi a, .ref 137].map (xl_v ρ σ))).length) Slot.unset).toArray = ls at hl0 ⊢
  have hL : xl_L ρ σ M.2.2.1 ls [some (.ref 0), some (xi a), some (.ref 137), none] := by
    refine ⟨hl0.1, hl0.2.1, fun i v hi => ?_⟩
    have := xl_e_in (ρ := ρ) (σ := σ) [.ref 0, xi a, .ref 137] M.2.2.1 0 i v (by rw [f2]; exact hi)
    rw [Nat.zero_add] at this
    exact hl0.2.2 _ this
  refine lv_aload_n B.exec B.bytes f4.1 rfl (hL.2.2 2 (.ref 137) rfl) ?_
  refine lv_iconst (v := 0) B.exec B.bytes f5.1 rfl ?_
  refine lv_aload_n B.exec B.bytes f6.1 rfl (hL.2.2 0 (.ref 0) rfl) ?_
  refine lv_iload_n B.exec B.bytes f7.1 rfl (hL.2.2 1 (xi a) rfl) ?_
  have hp : xl_pi (fun k => 0 + k) (encL x ++ [xL 1 out]) (encL x) := xl_pi_add (by simp)
  have hok : ∀ j c, (encL x)[j]? = some c → xl_ok (fun k => 0 + k) j c := fun j c _ => xl_ok_add _ j c
  obtain ⟨g1, g2, g3⟩ := xl_part hH hp hok
  obtain ⟨fs, hrec⟩ := recL x
  have hrec2 : (encL x ++ [xL 1 out])[0]? = some (.inr (2, fs)) := by
    rw [List.getElem?_append_left (by rw [lenL137]; decide), ← xl_n_eq]
    exact hrec
  have hrecv := va_recv hK hP (show vwCl[2]? = some (RX2, TX2, 13) from rfl) (xl_w_of hrec2)
  have hcw : CallW (headSpec (wr_ws M [(0, 8, 11, 13)]) wr_rm).room s ([Value.ref 0, xi a, .ref 137].map (xl_v ρ σ)).toArray RL RX2 i μ.1 μ.2.1 μ.2.2.1 μ.2.2.2.1 (xl_ws μ) xt_rm 1 6 1 := ⟨callB_of _ hT (xl_good μ hv.1) rfl rfl rfl (hT _ hv.1.2.2.1) (hT _ f16) (by rw [← hnp]; exact hv.1.2.2.2) ⟨by show 6 + 1 ≤ 7; decide, by show 8 + (μ.2.2.1 + 11) + 100 ≤ 130; omega⟩, hT _ hv.2.1, by rw [← hcl]; exact hT _ hv.2.2⟩
  have hrun := vx_runV (As := [.int (iI a)]) (rest := [.int 0, .ref (ρ 137)]) (H := s.heap) (locs := []) (cells := 0) (slots := 0) (e := e) (below := below) (meth := meth) (b := ρ 0) (C := RX2) (g := F0 m 4 ls ([.int (iI a)].reverse ++ .ref (ρ 0) :: [.int 0, .ref (ρ 137)])) ⟨B.exec, B.bytes, hml, hownL, hT⟩ (hm l hl D aC (fun k => ρ (0 + k)) σ aV s.heap.size) hcw ⟨xt_blind, hrecv, fun U hU hW => xt_ready hH hX hp hok hU hW rfl⟩ rfl rfl hl0.1 rfl (lv_room (Nat.le_of_ble_eq_true rfl)) f8 ⟨by show 0 + 1 ≤ 1; decide, by show 0 + 6 ≤ 6; decide⟩
  refine xt_after hrun hS (fun q _ hq => g3 q hq) g3 (fun h' q9 ce H1 locs1 hPt hP1' hD1 hz1 hk1 hS1 hce hcv hcc => ?_) (fun v h' H1 locs1 hPo hP1' hD1 hz1 hk1 hS1 => ?_)
  · obtain ⟨hbad, rfl⟩ := hP2 h' hPt
    have hH1 := xl_joined hH hp (h1 := encL x ++ [xL 1 out]) ⟨rfl, fun j hj => (hp.2 j hj).1, fun _ _ => rfl⟩ rfl hok hP1' hk1 hS1
    obtain ⟨hK2, hP2', hD2, hS2, hE2, hA2⟩ := hH1
    refine vx_catch (own := RL) (name := nseC) (E := nseC) (ce := ce) hownL [] ((tableOf [(0, 8, 11, 13)])[0]) [] htab (fun z hz => nomatch hz) (by decide) (by decide) (hT _ ckL) (va_Nw.use rfl hX.2.2.1) hce hcv hcc ?_
    refine W.widen (k := 1) (n := 6) (by omega) (by omega) ?_
    show W p l e _ s m _ below meth c H1 locs1 1 6 _ (F0 m 11 ls [.ref q9])
    refine lv_astore_n B.exec B.bytes f11 rfl hL.has (by rw [f2]; decide) rfl (fun ls' hl' => ?_)
    refine lv_iconst (v := 1) B.exec B.bytes f12 rfl ?_
    refine W.zret (ty := .int) B.exec B.bytes (B.returns.trans f3) rfl (fun t ht hW => ⟨⟨some (xi 1), encL x ++ [xL 1 out], rfl, Or.inr ⟨hbad, rfl, rfl⟩, by rw [ht]; exact hP2', va_K.moved hW.alike hK2, hD2⟩, hS2.F ht⟩) hS2.2.2 f13 hlocks
  · obtain ⟨z, hz, hOk, rfl, rfl⟩ := hP1 v h' hPo
    have hH1 := xl_joined hH hp (h1 := encL x ++ [xL 1 out]) ⟨rfl, fun j hj => (hp.2 j hj).1, fun _ _ => rfl⟩ rfl hok hP1' hk1 hS1
    have kW : xl_W (M.1, M.2.1, M.2.2.1, M.2.2.2.1, 0, 0, 0) 0 0 7 [some (.ref 0), some (xi a), some (.ref 137), none] [xl z, .int 0, .ref 137] (encL x ++ [xL 1 out]) (fun v h' => v = some (some (xi 0)) ∧ h' = encL x ++ [xL 1 (xup out 0 z)]) := by
      refine xl_last (r := 137) (n := 1) (f := fun k => lI (out k)) (i := 0) f9 (atO x out) (iI_in (z := 0) ⟨by decide, by decide⟩ (by decide) (by decide)) <| xl_goto f10 <| xl_iconst 0 f14 rfl <| xl_ireturn f15 f3 ?_
      refine ⟨rfl, ?_⟩
      rw [setO, show (lI z) = lI z from rfl]
      show encL x ++ [.inl (1, 1, .inr (.inl (vp_updL (fun k => lI (out k)) 0 (lI z))))] = _
      rw [xup_updL]
    refine W.widen (k := 1) (n := 6) (by omega) (by omega) ?_
    refine kW p l e _ s m _ below meth c D aC ρ σ aV A H1 locs1 1 6 ls _ ⟨B.exec, B.bytes, B.returns, hml, hown, hT, hlocks, Nat.zero_le _, Nat.zero_le _, hl⟩ hH1 hL (Nat.le_refl _) (Nat.le_refl _) (fun v h' H' locs' pc' cells' slots' ls' hPo hH' hR hc1 hc2 => ?_) (fun h' H' locs' pc' cells' slots' ls' hPo => by cases hPo.1)
    obtain ⟨ev, rfl⟩ := hPo
    cases ev
    obtain ⟨hK2, hP2', hD2, hS2, hE2, hA2⟩ := hH'
    obtain ⟨⟨ty, e1, e2⟩, e3⟩ := hR
    refine W.widen (k := 1) (n := 6) (by omega) (by omega) ?_
    exact W.zret B.exec B.bytes (B.returns.trans e1) e2 (fun t ht hW => ⟨⟨some (xi 0), _, rfl, Or.inl ⟨z, hz, hOk, rfl, rfl⟩, by rw [ht]; exact hP2', va_K.moved hW.alike hK2, hD2⟩, hS2.F ht⟩) hS2.2.2 e3 hlocks
theorem FL_source : wr2_F mL_source mX2_source 7 := ⟨by decide +kernel, rfl, rfl, rfl, iL_source_0, iL_source_1, iL_source_2, iL_source_3, iL_source_4, iL_source_5.1, iL_source_8, iL_source_9, iL_source_10, iL_source_13.1, iL_source_15.1, iL_source_16.1, iL_source_17, iL_source_18, lL_7⟩
theorem FL_session : wr2_F mL_session mX2_session 15 := ⟨by decide +kernel, rfl, rfl, rfl, iL_session_0, iL_session_1, iL_session_2, iL_session_3, iL_session_4, iL_session_5.1, iL_session_8, iL_session_9, iL_session_10, iL_session_13.1, iL_session_15.1, iL_session_16.1, iL_session_17, iL_session_18, lL_15⟩
theorem FL_message : wr2_F mL_message mX2_message 18 := ⟨by decide +kernel, rfl, rfl, rfl, iL_message_0, iL_message_1, iL_message_2, iL_message_3, iL_message_4, iL_message_5.1, iL_message_8, iL_message_9, iL_message_10, iL_message_13.1, iL_message_15.1, iL_message_16.1, iL_message_17, iL_message_18, lL_18⟩
theorem FL_finals : wr2_F mL_finals mX2_finals 21 := ⟨by decide +kernel, rfl, rfl, rfl, iL_finals_0, iL_finals_1, iL_finals_2, iL_finals_3, iL_finals_4, iL_finals_5.1, iL_finals_8, iL_finals_9, iL_finals_10, iL_finals_13.1, iL_finals_15.1, iL_finals_16.1, iL_finals_17, iL_finals_18, lL_21⟩
theorem FL_input : wr2_F mL_input mX2_input 24 := ⟨by decide +kernel, rfl, rfl, rfl, iL_input_0, iL_input_1, iL_input_2, iL_input_3, iL_input_4, iL_input_5.1, iL_input_8, iL_input_9, iL_input_10, iL_input_13.1, iL_input_15.1, iL_input_16.1, iL_input_17, iL_input_18, lL_24⟩
theorem FL_row : wr1_F mL_row mX2_row 27 := ⟨by decide +kernel, rfl, rfl, rfl, iL_row_0, iL_row_1, iL_row_2, iL_row_3, iL_row_4.1, iL_row_7, iL_row_8, iL_row_11.1, iL_row_12.1, iL_row_13.1, iL_row_14, iL_row_15, lL_27⟩
