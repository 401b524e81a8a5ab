-- 97.wr
section
/-! ===== the law's helpers: an answer, or 1 where the class throws ===== -/
def wr_rm : Room := { frames := 7, cells := 1, slots := 6, locals := 130 }
def wr_ws (M : XI) (hh : List (Nat × Nat × Nat × Nat)) : List Cond := .codeWith M.1 M.2.1 M.2.2.1 M.2.2.2.1 hh :: xl_T
def wr_C (M : XI) (hh : List (Nat × Nat × Nat × Nat)) (As : List Value) (h : XH) (Po : Option Value → XH → Prop) : Prop :=
  ∀ (l : Launch), l.flags = flags0 → ∀ (D : va_G) (aC : Nat → ClassId) (ρ σ aV : Nat → Nat) (sz : Nat), Met l M.1 (wr_ws M hh) wr_rm (xt_Pc D aC ρ σ aV sz As h) (xl_Qc D aC ρ σ (va_A (xl_w aC ρ σ h) sz) Po) 1 6 (va_A (xl_w aC ρ σ h) sz)
theorem xt_blind {hl : XH} {D : va_G} {aC : Nat → ClassId} {ρ σ aV : Nat → Nat} {sz : Nat} {As : List Value} : FrameBlind (xt_Pc D aC ρ σ aV sz As hl) := fun a U g mk q => by
  obtain ⟨q0, ⟨q1, qP, qK, qD, qE⟩, q2⟩ := q
  exact ⟨q0, ⟨q1, qP, va_K.moved (u := U) (U := U.calling g mk a) (Vm.Alike.refl U.vm) qK, qD, xl_S.same (u := U) (U := U.calling g mk a) rfl qE⟩, xt_E.same (U := U.calling g mk a) q2 rfl rfl⟩
theorem xt_ready {D : va_G} {aC : Nat → ClassId} {ρ σ aV : Nat → Nat} {A : Nat → Prop} {s U : State} {H : Heap} {locs : List Loc} {π : Nat → Nat} {h hl : XH} {As : List Value} {av : List Value} (hH : xl_H D aC ρ σ aV A s H locs h) (hX : xt_E A s) (hp : xl_pi π h hl) (hok : ∀ j c, hl[j]? = some c → xl_ok π j c) (hU : U.heap = H) (hW : s.WarmedH U.vm) (hAs : av = As.map (xl_v (fun k => ρ (π k)) σ)) : xt_Pc D aC (fun k => ρ (π k)) σ aV H.size As hl av.toArray U := by
  have q := xl_ready hH hp hok hU hW hAs
  obtain ⟨g1, g2, g3⟩ := xl_part hH hp hok
  exact ⟨q.1, q.2, xt_E.go hX hW (fun a h1 h2 => by rw [hU]; exact hH.2.2.2.1.2.1 a h1 h2) g3⟩
theorem lenO (x : LSt) (out : Nat → Int) : (encL x ++ [xL 1 out]).length = 138 := by rw [List.length_append, lenL137]; rfl
theorem atO (x : LSt) (out : Nat → Int) : xl_n (encL x ++ [xL 1 out]) 137 = some (xL 1 out) := by
  have := xl_n_mid (encL x) (xL 1 out) []
  rw [lenL137] at this
  exact this
theorem setO (x : LSt) (out : Nat → Int) (c : XE) : xl_s (encL x ++ [xL 1 out]) 137 c = encL x ++ [c] := by
  have := xl_s_mid (encL x) (xL 1 out) c []
  rw [lenL137] at this
  exact this

def wr2_F (M μ : XI) (i : Nat) : Prop := plainName M.1.cls = true ∧ M.1.cls = RL ∧ M.2.2.1 = 5 ∧ M.2.2.2.1 = some .int ∧ xl_D M 0 (.aload_n 3) 1 1 ∧ xl_D M 1 (.iconst 0) 1 2 ∧ xl_D M 2 (.aload_n 0) 1 3 ∧ xl_D M 3 (.iload_n 1) 1 4 ∧ xl_D M 4 (.iload_n 2) 1 5 ∧ decode M.2.1 5 = .ok (.invokevirtual i, 3) ∧ xl_D M 8 .i2l 1 9 ∧ xl_D M 9 .lastore 1 10 ∧ xl_J M 10 (fun o => .goto o) 13 17 ∧ decode M.2.1 13 = .ok (.astore 4, 2) ∧ decode M.2.1 15 = .ok (.iconst 1, 1) ∧ decode M.2.1 16 = .ok (.ireturn, 1) ∧ xl_D M 17 (.iconst 0) 1 18 ∧ xl_D M 18 .ireturn 1 19 ∧ Cond.methodLink RL i μ.1 ∈ xl_T
set_option maxRecDepth 10000 in
theorem wr2_con {M μ : XI} {i : Nat} (F : wr2_F M μ i) (hv : xl_V μ) (hcl : μ.1.cls = RX2) (hnp : μ.2.2.2.2.2.2 = 2) (hml5 : μ.2.2.1 ≤ 6) (a b : Int) (x : LSt) (out : Nat → Int) {PP : Option (Option Value) → XH → Prop} {Ok : Int → Prop} {Bad : Prop} (hm : xt_C μ [.ref 0, xi a, xi b] (encL x) PP) (hP1 : ∀ v h', PP (some v) h' → ∃ z, xb z ∧ Ok z ∧ v = some (xi z) ∧ h' = encL x) (hP2 : ∀ h', PP none h' → Bad ∧ h' = encL x) :
    wr_C M [(0, 10, 13, 13)] [.ref 0, xi a, xi b, .ref 137] (encL x ++ [xL 1 out]) (fun v h' => (∃ z, xb z ∧ Ok z ∧ v = some (xi 0) ∧ h' = encL x ++ [xL 1 (xup out 0 z)]) ∨ (Bad ∧ v = some (xi 1) ∧ h' = encL x ++ [xL 1 out])) := by
  obtain ⟨f0, f1, f2, f3, f4, f5, f6, f7, f8, f9, f10, f11, f12, f13, f14, f15, f16, f17, f18⟩ := F
  intro l hl D aC ρ σ aV sz
  refine va_MetW (cc := M.2.1) (maxL := M.2.2.1) (ret := M.2.2.2.1) (hh := [(0, 10, 13, 13)]) f0 rfl ?_
  intro p e s m args below meth c s₁ B hml hv0
  obtain ⟨rfl, ⟨hsz, hP, hK, hD0, hE⟩, hX⟩ := hv0
  have hts := atoms_spec (ws := wr_ws M [(0, 10, 13, 13)]) B.pre
  have hT : ∀ w ∈ xl_T, w.before _ s = true := fun w hw => hts w (List.mem_cons_of_mem _ hw)
  have hown : s.vm.findClass M.1.cls = some m.cls := findClass_of_methodNamed B.named
  have hownL : s.vm.findClass RL = some m.cls := by rw [← f1]; exact hown
  have hlocks := B.notSynchronized
  have htab : c.exceptionTable.toList = tableOf [(0, 10, 13, 13)] := vx_table (x := M.1) B (hts _ List.mem_cons_self)
  subst hsz
  have hD := hD0.self (sz := s.heap.size)
  have hl0 := lv_entry ([Value.ref 0, xi a, xi b, .ref 137].map (xl_v ρ σ)) (n := M.2.2.1) (by rw [xl_z_eq, f2]; exact Nat.le_of_ble_eq_true rfl)
  generalize hAe : va_A (xl_w aC ρ σ (encL x ++ [xL 1 out])) s.heap.size = A at hD hE hX ⊢
  have hA : ∀ q : Nat, s.heap.size ≤ q → A q := fun q h => by rw [← hAe]; exact Or.inr h
  have hS : va_S A s.heap s.heap [] := va_S.rf
  have hH : xl_H D aC ρ σ aV A s s.heap [] (encL x ++ [xL 1 out]) := ⟨hK, hP, hD, hS, hE, hA⟩
  rw [lg_entry_eq]
  generalize hgl : (lg_sl ([Value.ref 0, xi a, xi b, .ref 137].map (xl_v ρ σ)) ++ List.replicate (M.2.2.1 - (lg_sl ([Value.ref 0, xi a, xi b, .ref 137].map (xl_v ρ σ))).length) Slot.unset).toArray = ls at hl0 ⊢
  have hL : xl_L ρ σ M.2.2.1 ls [some (.ref 0), some (xi a), some (xi b), some (.ref 137), none] := by
    refine ⟨hl0.1, hl0.2.1, fun i v hi => ?_⟩
    have := xl_e_in (ρ := ρ) (σ := σ) [.ref 0, xi a, xi b, .ref 137] M.2.2.1 0 i v (by rw [f2]; exact hi)
    rw [Nat.zero_add] at this
    exact hl0.2.2 _ this
  refine lv_aload_n B.exec B.bytes f4.1 rfl (hL.2.2 3 (.ref 137) rfl) ?_
  refine lv_iconst (v := 0) B.exec B.bytes f5.1 rfl ?_
  refine lv_aload_n B.exec B.bytes f6.1 rfl (hL.2.2 0 (.ref 0) rfl) ?_
  refine lv_iload_n B.exec B.bytes f7.1 rfl (hL.2.2 1 (xi a) rfl) ?_
  refine lv_iload_n B.exec B.bytes f8.1 rfl (hL.2.2 2 (xi b) rfl) ?_
  have hp : xl_pi (fun k => 0 + k) (encL x ++ [xL 1 out]) (encL x) := xl_pi_add (by simp)
  have hok : ∀ j c, (encL x)[j]? = some c → xl_ok (fun k => 0 + k) j c := fun j c _ => xl_ok_add _ j c
  obtain ⟨g1, g2, g3⟩ := xl_part hH hp hok
  obtain ⟨fs, hrec⟩ := recL x
  have hrec2 : (encL x ++ [xL 1 out])[0]? = some (.inr (2, fs)) := by
    rw [List.getElem?_append_left (by rw [lenL137]; decide), ← xl_n_eq]
    exact hrec
  have hrecv := va_recv hK hP (show vwCl[2]? = some (RX2, TX2, 13) from rfl) (xl_w_of hrec2)
  have hcw : CallW (headSpec (wr_ws M [(0, 10, 13, 13)]) wr_rm).room s ([Value.ref 0, xi a, xi b, .ref 137].map (xl_v ρ σ)).toArray RL RX2 i μ.1 μ.2.1 μ.2.2.1 μ.2.2.2.1 (xl_ws μ) xt_rm 1 6 2 := ⟨callB_of _ hT (xl_good μ hv.1) rfl rfl rfl (hT _ hv.1.2.2.1) (hT _ f18) (by rw [← hnp]; exact hv.1.2.2.2) ⟨by show 6 + 1 ≤ 7; decide, by show 8 + (μ.2.2.1 + 11) + 100 ≤ 130; omega⟩, hT _ hv.2.1, by rw [← hcl]; exact hT _ hv.2.2⟩
  have hrun := vx_runV (As := [.int (iI a), .int (iI b)]) (rest := [.int 0, .ref (ρ 137)]) (H := s.heap) (locs := []) (cells := 0) (slots := 0) (e := e) (below := below) (meth := meth) (b := ρ 0) (C := RX2) (g := F0 m 5 ls ([.int (iI a), .int (iI b)].reverse ++ .ref (ρ 0) :: [.int 0, .ref (ρ 137)])) ⟨B.exec, B.bytes, hml, hownL, hT⟩ (hm l hl D aC (fun k => ρ (0 + k)) σ aV s.heap.size) hcw ⟨xt_blind, hrecv, fun U hU hW => xt_ready hH hX hp hok hU hW rfl⟩ rfl rfl hl0.1 rfl (lv_room (Nat.le_of_ble_eq_true rfl)) f9 ⟨by show 0 + 1 ≤ 1; decide, by show 0 + 6 ≤ 6; decide⟩
  refine xt_after hrun hS (fun q _ hq => g3 q hq) g3 (fun h' q9 ce H1 locs1 hPt hP1' hD1 hz1 hk1 hS1 hce hcv hcc => ?_) (fun v h' H1 locs1 hPo hP1' hD1 hz1 hk1 hS1 => ?_)
  · obtain ⟨hbad, rfl⟩ := hP2 h' hPt
    have hH1 := xl_joined hH hp (h1 := encL x ++ [xL 1 out]) ⟨rfl, fun j hj => (hp.2 j hj).1, fun _ _ => rfl⟩ rfl hok hP1' hk1 hS1
    obtain ⟨hK2, hP2', hD2, hS2, hE2, hA2⟩ := hH1
    refine vx_catch (own := RL) (name := nseC) (E := nseC) (ce := ce) hownL [] ((tableOf [(0, 10, 13, 13)])[0]) [] htab (fun z hz => nomatch hz) (by decide) (by decide) (hT _ ckL) (va_Nw.use rfl hX.2.2.1) hce hcv hcc ?_
    refine W.widen (k := 1) (n := 6) (by omega) (by omega) ?_
    show W p l e _ s m _ below meth c H1 locs1 1 6 _ (F0 m 13 ls [.ref q9])
    refine lv_astore B.exec B.bytes f13 hL.has (by rw [f2]; decide) rfl (fun ls' hl' => ?_)
    refine lv_iconst (v := 1) B.exec B.bytes f14 rfl ?_
    refine W.zret (ty := .int) B.exec B.bytes (B.returns.trans f3) rfl (fun t ht hW => ⟨⟨some (xi 1), encL x ++ [xL 1 out], rfl, Or.inr ⟨hbad, rfl, rfl⟩, by rw [ht]; exact hP2', va_K.moved hW.alike hK2, hD2⟩, hS2.F ht⟩) hS2.2.2 f15 hlocks
  · obtain ⟨z, hz, hOk, rfl, rfl⟩ := hP1 v h' hPo
    have hH1 := xl_joined hH hp (h1 := encL x ++ [xL 1 out]) ⟨rfl, fun j hj => (hp.2 j hj).1, fun _ _ => rfl⟩ rfl hok hP1' hk1 hS1
    have kW : xl_W (M.1, M.2.1, M.2.2.1, M.2.2.2.1, 0, 0, 0) 0 0 8 [some (.ref 0), some (xi a), some (xi b), some (.ref 137), none] [xi z, .int 0, .ref 137] (encL x ++ [xL 1 out]) (fun v h' => v = some (some (xi 0)) ∧ h' = encL x ++ [xL 1 (xup out 0 z)]) := by
      refine xl_i2l f10 <| xl_last (r := 137) (n := 1) (f := fun k => lI (out k)) (i := 0) f11 (atO x out) (iI_in (z := 0) ⟨by decide, by decide⟩ (by decide) (by decide)) <| xl_goto f12 <| xl_iconst 0 f16 rfl <| xl_ireturn f17 f3 ?_
      refine ⟨rfl, ?_⟩
      rw [setO, show ((iI z).toInt64) = lI z from iI_long hz]
      show encL x ++ [.inl (1, 1, .inr (.inl (vp_updL (fun k => lI (out k)) 0 (lI z))))] = _
      rw [xup_updL]
    refine W.widen (k := 1) (n := 6) (by omega) (by omega) ?_
    refine kW p l e _ s m _ below meth c D aC ρ σ aV A H1 locs1 1 6 ls _ ⟨B.exec, B.bytes, B.returns, hml, hown, hT, hlocks, Nat.zero_le _, Nat.zero_le _, hl⟩ hH1 hL (Nat.le_refl _) (Nat.le_refl _) (fun v h' H' locs' pc' cells' slots' ls' hPo hH' hR hc1 hc2 => ?_) (fun h' H' locs' pc' cells' slots' ls' hPo => by cases hPo.1)
    obtain ⟨ev, rfl⟩ := hPo
    cases ev
    obtain ⟨hK2, hP2', hD2, hS2, hE2, hA2⟩ := hH'
    obtain ⟨⟨ty, e1, e2⟩, e3⟩ := hR
    refine W.widen (k := 1) (n := 6) (by omega) (by omega) ?_
    exact W.zret B.exec B.bytes (B.returns.trans e1) e2 (fun t ht hW => ⟨⟨some (xi 0), _, rfl, Or.inl ⟨z, hz, hOk, rfl, rfl⟩, by rw [ht]; exact hP2', va_K.moved hW.alike hK2, hD2⟩, hS2.F ht⟩) hS2.2.2 e3 hlocks
def wr1_F (M μ : XI) (i : Nat) : Prop := plainName M.1.cls = true ∧ M.1.cls = RL ∧ M.2.2.1 = 4 ∧ M.2.2.2.1 = some .int ∧ xl_D M 0 (.aload_n 2) 1 1 ∧ xl_D M 1 (.iconst 0) 1 2 ∧ xl_D M 2 (.aload_n 0) 1 3 ∧ xl_D M 3 (.iload_n 1) 1 4 ∧ decode M.2.1 4 = .ok (.invokevirtual i, 3) ∧ xl_D M 7 .lastore 1 8 ∧ xl_J M 8 (fun o => .goto o) 11 14 ∧ decode M.2.1 11 = .ok (.astore_n 3, 1) ∧ decode M.2.1 12 = .ok (.iconst 1, 1) ∧ decode M.2.1 13 = .ok (.ireturn, 1) ∧ xl_D M 14 (.iconst 0) 1 15 ∧ xl_D M 15 .ireturn 1 16 ∧ Cond.methodLink RL i μ.1 ∈ xl_T
set_option maxRecDepth 10000 in
theorem wr1_con {M μ : XI} {i : Nat} (F : wr1_F M μ i) (hv : xl_V μ) (hcl : μ.1.cls = RX2) (hnp : μ.2.2.2.2.2.2 = 1) (hml5 : μ.2.2.1 ≤ 6) (a : Int) (x : LSt) (out : Nat → Int) {PP : Option (Option Value) → XH → Prop} {Ok : Int → Prop} {Bad : Prop} (hm : xt_C μ [.ref 0, xi a] (encL x) PP) (hP1 : ∀ v h', PP (some v) h' → ∃ z, xb z ∧ Ok z ∧ v = some (xl z) ∧ h' = encL x) (hP2 : ∀ h', PP none h' → Bad ∧ h' = encL x) :
    wr_C M [(0, 8, 11, 13)] [.ref 0, xi a, .ref 137] (encL x ++ [xL 1 out]) (fun v h' => (∃ z, xb z ∧ Ok z ∧ v = some (xi 0) ∧ h' = encL x ++ [xL 1 (xup out 0 z)]) ∨ (Bad ∧ v = some (xi 1) ∧ h' = encL x ++ [xL 1 out])) := by
  obtain ⟨f0, f1, f2, f3, f4, f5, f6, f7, f8, f9, f10, f11, f12, f13, f14, f15, f16⟩ := F
  intro l hl D aC ρ σ aV sz
  refine va_MetW (cc := M.2.1) (maxL := M.2.2.1) (ret := M.2.2.2.1) (hh := [(0, 8, 11, 13)]) f0 rfl ?_
  intro p e s m args below meth c s₁ B hml hv0
  obtain ⟨rfl, ⟨hsz, hP, hK, hD0, hE⟩, hX⟩ := hv0
  have hts := atoms_spec (ws := wr_ws M [(0, 8, 11, 13)]) B.pre
  have hT : ∀ w ∈ xl_T, w.before _ s = true := fun w hw => hts w (List.mem_cons_of_mem _ hw)
  have hown : s.vm.findClass M.1.cls = some m.cls := findClass_of_methodNamed B.named
  have hownL : s.vm.findClass RL = some m.cls := by rw [← f1]; exact hown
  have hlocks := B.notSynchronized
  have htab : c.exceptionTable.toList = tableOf [(0, 8, 11, 13)] := vx_table (x := M.1) B (hts _ List.mem_cons_self)
  subst hsz
  have hD := hD0.self (sz := s.heap.size)
  have hl0 := lv_entry ([Value.ref 0, xi a, .ref 137].map (xl_v ρ σ)) (n := M.2.2.1) (by rw [xl_z_eq, f2]; exact Nat.le_of_ble_eq_true rfl)
  generalize hAe : va_A (xl_w aC ρ σ (encL x ++ [xL 1 out])) s.heap.size = A at hD hE hX ⊢
  have hA : ∀ q : Nat, s.heap.size ≤ q → A q := fun q h => by rw [← hAe]; exact Or.inr h
  have hS : va_S A s.heap s.heap [] := va_S.rf
  have hH : xl_H D aC ρ σ aV A s s.heap [] (encL x ++ [xL 1 out]) := ⟨hK, hP, hD, hS, hE, hA⟩
  rw [lg_entry_eq]
  generalize hgl : (lg_sl ([Value.ref 0, xi a, .ref 137].map (xl_v ρ σ)) ++ List.replicate (M.2.2.1 - (lg_sl ([Value.ref 0, xi a, .ref 137].map (xl_v ρ σ))).length) Slot.unset).toArray = ls at hl0 ⊢
  have hL : xl_L ρ σ M.2.2.1 ls [some (.ref 0), some (xi a), some (.ref 137), none] := by
    refine ⟨hl0.1, hl0.2.1, fun i v hi => ?_⟩
    have := xl_e_in (ρ := ρ) (σ := σ) [.ref 0, xi a, .ref 137] M.2.2.1 0 i v (by rw [f2]; exact hi)
    rw [Nat.zero_add] at this
    exact hl0.2.2 _ this
  refine lv_aload_n B.exec B.bytes f4.1 rfl (hL.2.2 2 (.ref 137) rfl) ?_
  refine lv_iconst (v := 0) B.exec B.bytes f5.1 rfl ?_
  refine lv_aload_n B.exec B.bytes f6.1 rfl (hL.2.2 0 (.ref 0) rfl) ?_
  refine lv_iload_n B.exec B.bytes f7.1 rfl (hL.2.2 1 (xi a) rfl) ?_
  have hp : xl_pi (fun k => 0 + k) (encL x ++ [xL 1 out]) (encL x) := xl_pi_add (by simp)
  have hok : ∀ j c, (encL x)[j]? = some c → xl_ok (fun k => 0 + k) j c := fun j c _ => xl_ok_add _ j c
  obtain ⟨g1, g2, g3⟩ := xl_part hH hp hok
  obtain ⟨fs, hrec⟩ := recL x
  have hrec2 : (encL x ++ [xL 1 out])[0]? = some (.inr (2, fs)) := by
    rw [List.getElem?_append_left (by rw [lenL137]; decide), ← xl_n_eq]
    exact hrec
  have hrecv := va_recv hK hP (show vwCl[2]? = some (RX2, TX2, 13) from rfl) (xl_w_of hrec2)
  have hcw : CallW (headSpec (wr_ws M [(0, 8, 11, 13)]) wr_rm).room s ([Value.ref 0, xi a, .ref 137].map (xl_v ρ σ)).toArray RL RX2 i μ.1 μ.2.1 μ.2.2.1 μ.2.2.2.1 (xl_ws μ) xt_rm 1 6 1 := ⟨callB_of _ hT (xl_good μ hv.1) rfl rfl rfl (hT _ hv.1.2.2.1) (hT _ f16) (by rw [← hnp]; exact hv.1.2.2.2) ⟨by show 6 + 1 ≤ 7; decide, by show 8 + (μ.2.2.1 + 11) + 100 ≤ 130; omega⟩, hT _ hv.2.1, by rw [← hcl]; exact hT _ hv.2.2⟩
  have hrun := vx_runV (As := [.int (iI a)]) (rest := [.int 0, .ref (ρ 137)]) (H := s.heap) (locs := []) (cells := 0) (slots := 0) (e := e) (below := below) (meth := meth) (b := ρ 0) (C := RX2) (g := F0 m 4 ls ([.int (iI a)].reverse ++ .ref (ρ 0) :: [.int 0, .ref (ρ 137)])) ⟨B.exec, B.bytes, hml, hownL, hT⟩ (hm l hl D aC (fun k => ρ (0 + k)) σ aV s.heap.size) hcw ⟨xt_blind, hrecv, fun U hU hW => xt_ready hH hX hp hok hU hW rfl⟩ rfl rfl hl0.1 rfl (lv_room (Nat.le_of_ble_eq_true rfl)) f8 ⟨by show 0 + 1 ≤ 1; decide, by show 0 + 6 ≤ 6; decide⟩
  refine xt_after hrun hS (fun q _ hq => g3 q hq) g3 (fun h' q9 ce H1 locs1 hPt hP1' hD1 hz1 hk1 hS1 hce hcv hcc => ?_) (fun v h' H1 locs1 hPo hP1' hD1 hz1 hk1 hS1 => ?_)
  · obtain ⟨hbad, rfl⟩ := hP2 h' hPt
    have hH1 := xl_joined hH hp (h1 := encL x ++ [xL 1 out]) ⟨rfl, fun j hj => (hp.2 j hj).1, fun _ _ => rfl⟩ rfl hok hP1' hk1 hS1
    obtain ⟨hK2, hP2', hD2, hS2, hE2, hA2⟩ := hH1
    refine vx_catch (own := RL) (name := nseC) (E := nseC) (ce := ce) hownL [] ((tableOf [(0, 8, 11, 13)])[0]) [] htab (fun z hz => nomatch hz) (by decide) (by decide) (hT _ ckL) (va_Nw.use rfl hX.2.2.1) hce hcv hcc ?_
    refine W.widen (k := 1) (n := 6) (by omega) (by omega) ?_
    show W p l e _ s m _ below meth c H1 locs1 1 6 _ (F0 m 11 ls [.ref q9])
    refine lv_astore_n B.exec B.bytes f11 rfl hL.has (by rw [f2]; decide) rfl (fun ls' hl' => ?_)
    refine lv_iconst (v := 1) B.exec B.bytes f12 rfl ?_
    refine W.zret (ty := .int) B.exec B.bytes (B.returns.trans f3) rfl (fun t ht hW => ⟨⟨some (xi 1), encL x ++ [xL 1 out], rfl, Or.inr ⟨hbad, rfl, rfl⟩, by rw [ht]; exact hP2', va_K.moved hW.alike hK2, hD2⟩, hS2.F ht⟩) hS2.2.2 f13 hlocks
  · obtain ⟨z, hz, hOk, rfl, rfl⟩ := hP1 v h' hPo
    have hH1 := xl_joined hH hp (h1 := encL x ++ [xL 1 out]) ⟨rfl, fun j hj => (hp.2 j hj).1, fun _ _ => rfl⟩ rfl hok hP1' hk1 hS1
    have kW : xl_W (M.1, M.2.1, M.2.2.1, M.2.2.2.1, 0, 0, 0) 0 0 7 [some (.ref 0), some (xi a), some (.ref 137), none] [xl z, .int 0, .ref 137] (encL x ++ [xL 1 out]) (fun v h' => v = some (some (xi 0)) ∧ h' = encL x ++ [xL 1 (xup out 0 z)]) := by
      refine xl_last (r := 137) (n := 1) (f := fun k => lI (out k)) (i := 0) f9 (atO x out) (iI_in (z := 0) ⟨by decide, by decide⟩ (by decide) (by decide)) <| xl_goto f10 <| xl_iconst 0 f14 rfl <| xl_ireturn f15 f3 ?_
      refine ⟨rfl, ?_⟩
      rw [setO, show (lI z) = lI z from rfl]
      show encL x ++ [.inl (1, 1, .inr (.inl (vp_updL (fun k => lI (out k)) 0 (lI z))))] = _
      rw [xup_updL]
    refine W.widen (k := 1) (n := 6) (by omega) (by omega) ?_
    refine kW p l e _ s m _ below meth c D aC ρ σ aV A H1 locs1 1 6 ls _ ⟨B.exec, B.bytes, B.returns, hml, hown, hT, hlocks, Nat.zero_le _, Nat.zero_le _, hl⟩ hH1 hL (Nat.le_refl _) (Nat.le_refl _) (fun v h' H' locs' pc' cells' slots' ls' hPo hH' hR hc1 hc2 => ?_) (fun h' H' locs' pc' cells' slots' ls' hPo => by cases hPo.1)
    obtain ⟨ev, rfl⟩ := hPo
    cases ev
    obtain ⟨hK2, hP2', hD2, hS2, hE2, hA2⟩ := hH'
    obtain ⟨⟨ty, e1, e2⟩, e3⟩ := hR
    refine W.widen (k := 1) (n := 6) (by omega) (by omega) ?_
    exact W.zret B.exec B.bytes (B.returns.trans e1) e2 (fun t ht hW => ⟨⟨some (xi 0), _, rfl, Or.inl ⟨z, hz, hOk, rfl, rfl⟩, by rw [ht]; exact hP2', va_K.moved hW.alike hK2, hD2⟩, hS2.F ht⟩) hS2.2.2 e3 hlocks
theorem FL_source : wr2_F mL_source mX2_source 7 := ⟨by decide +kernel, rfl, rfl, rfl, iL_source_0, iL_source_1, iL_source_2, iL_source_3, iL_source_4, iL_source_5.1, iL_source_8, iL_source_9, iL_source_10, iL_source_13.1, iL_source_15.1, iL_source_16.1, iL_source_17, iL_source_18, lL_7⟩
theorem FL_session : wr2_F mL_session mX2_session 15 := ⟨by decide +kernel, rfl, rfl, rfl, iL_session_0, iL_session_1, iL_session_2, iL_session_3, iL_session_4, iL_session_5.1, iL_session_8, iL_session_9, iL_session_10, iL_session_13.1, iL_session_15.1, iL_session_16.1, iL_session_17, iL_session_18, lL_15⟩
theorem FL_message : wr2_F mL_message mX2_message 18 := ⟨by decide +kernel, rfl, rfl, rfl, iL_message_0, iL_message_1, iL_message_2, iL_message_3, iL_message_4, iL_message_5.1, iL_message_8, iL_message_9, iL_message_10, iL_message_13.1, iL_message_15.1, iL_message_16.1, iL_message_17, iL_message_18, lL_18⟩
theorem FL_finals : wr2_F mL_finals mX2_finals 21 := ⟨by decide +kernel, rfl, rfl, rfl, iL_finals_0, iL_finals_1, iL_finals_2, iL_finals_3, iL_finals_4, iL_finals_5.1, iL_finals_8, iL_finals_9, iL_finals_10, iL_finals_13.1, iL_finals_15.1, iL_finals_16.1, iL_finals_17, iL_finals_18, lL_21⟩
theorem FL_input : wr2_F mL_input mX2_input 24 := ⟨by decide +kernel, rfl, rfl, rfl, iL_input_0, iL_input_1, iL_input_2, iL_input_3, iL_input_4, iL_input_5.1, iL_input_8, iL_input_9, iL_input_10, iL_input_13.1, iL_input_15.1, iL_input_16.1, iL_input_17, iL_input_18, lL_24⟩
theorem FL_row : wr1_F mL_row mX2_row 27 := ⟨by decide +kernel, rfl, rfl, rfl, iL_row_0, iL_row_1, iL_row_2, iL_row_3, iL_row_4.1, iL_row_7, iL_row_8, iL_row_11.1, iL_row_12.1, iL_row_13.1, iL_row_14, iL_row_15, lL_27⟩
end
-- 98.lw
section
/-! ===== the law: rules ===== -/
section LW
variable {S : XS} {Nn : Nat} {M μ : XI} {rc rs pc pc2 : Nat} {L : List (Option Value)} {st rest : List Value} {h hl : XH} {Po : Option (Option Value) → XH → Prop} {Po' : Option Value → XH → Prop}
theorem xn_wid {rc' rs' : Nat} (q1 : rc ≤ rc') (q2 : rs ≤ rs') (k : xn_W S Nn M rc rs pc L st h Po) : xn_W S Nn M rc' rs' pc L st h Po := by
  intro p l e R s m args below meth c D aC ρ σ aV A H locs cells slots ls Q hX hH hL h1 h2 hr ht hZ
  exact k p l e R s m args below meth c D aC ρ σ aV A H locs cells slots ls Q hX hH hL (by omega) (by omega) (fun ρ' v h' H' locs' pc' cells' slots' ls' a0 a1 a2 a3 a4 a5 => hr ρ' v h' H' locs' pc' cells' slots' ls' a0 a1 a2 a3 (by omega) (by omega)) (fun ρ' h' H' locs' pc' cells' slots' ls' a0 a1 a2 a3 a4 a5 a6 => ht ρ' h' H' locs' pc' cells' slots' ls' a0 a1 a2 a3 (by omega) (by omega) a6) hZ
theorem xn_weak {L' : List (Option Value)} (hl : ∀ i v, xl_n L' i = some (some v) → xl_n L i = some (some v)) (k : xn_W S Nn M rc rs pc L' st h Po) : xn_W S Nn M rc rs pc L st h Po := by
  intro p l e R s m args below meth c D aC ρ σ aV A H locs cells slots ls Q hX hH hL h1 h2 hr ht hZ
  exact k p l e R s m args below meth c D aC ρ σ aV A H locs cells slots ls Q hX hH ⟨hL.1, hL.2.1, fun i v hi => hL.2.2 i v (hl i v hi)⟩ h1 h2 hr ht hZ
theorem xn_tabI {dflt lo hi : Int} {offs : Array Int} {len tgt : Nat} {off : Int} {x : Int32} (d : decode M.2.1 pc = .ok (.tableswitch dflt lo hi offs, len)) (h1 : ¬ x.toInt < lo) (h2 : ¬ hi < x.toInt) (ho : offs[(x.toInt - lo).toNat]? = some off) (ht : (pc : Int) + off = (tgt : Int)) (k : xn_W S Nn M rc rs tgt L st h Po) : xn_W S Nn M rc rs pc L (.int x :: st) h Po :=
  xn_go (fun hX k => lv_tableIn hX.1 hX.2.1 d h1 h2 ho ht k) k
theorem xn_tabO {dflt lo hi : Int} {offs : Array Int} {len tgt : Nat} {x : Int32} (d : decode M.2.1 pc = .ok (.tableswitch dflt lo hi offs, len)) (h1 : x.toInt < lo ∨ hi < x.toInt) (ht : (pc : Int) + dflt = (tgt : Int)) (k : xn_W S Nn M rc rs tgt L st h Po) : xn_W S Nn M rc rs pc L (.int x :: st) h Po :=
  xn_go (fun hX k => lv_tableOut hX.1 hX.2.1 d h1 ht k) k
theorem xl_L.put2 {ρ σ : Nat → Nat} {n i : Nat} {ls : Array Slot} {v : Value} (hk : xl_k L i = true) (h1 : lv_has ls n ((i, xl_v ρ σ v) :: (xl_p ρ σ L).filter (fun q => !(q.1 == i) && (!(q.1 == i + 1) && !(q.1 + 1 == i && q.2.category == 2))))) : xl_L ρ σ n ls (xl_s (xl_s L i (some v)) (i + 1) none) := by
  refine ⟨h1.1, h1.2.1, fun j w hw => ?_⟩
  rcases xl_n_s hw with ⟨-, e2⟩ | ⟨e0, e2⟩
  · cases e2
  · rcases xl_n_s e2 with ⟨rfl, e3⟩ | ⟨e1, e3⟩
    · cases e3
      exact h1.2.2 (_, xl_v ρ σ v) List.mem_cons_self
    · refine h1.2.2 (j, xl_v ρ σ w) (List.mem_cons_of_mem _ (List.mem_filter.mpr ⟨xl_p_mem.mpr ⟨w, e3, rfl⟩, ?_⟩))
      simp only [Bool.and_eq_true, Bool.not_eq_true', beq_eq_false_iff_ne, Bool.and_eq_false_iff, ne_eq]
      refine ⟨e1, e0, ?_⟩
      by_cases hj : j + 1 = i
      · subst hj
        exact Or.inr (xl_1n (xl_k_of hk e3))
      · exact Or.inl hj
theorem xn_lstore {i : Nat} {a : Int64} (d : xl_D M pc (.lstore i) 2 pc2) (hk : xl_k L i = true) (hn : i + 1 < M.2.2.1) (k : xn_W S Nn M rc rs pc2 (xl_s (xl_s L i (some (.long a))) (i + 1) none) st h Po) : xn_W S Nn M rc rs pc L (.long a :: st) h Po := by
  obtain ⟨d, rfl⟩ := d
  intro p l e R s m args below meth c D aC ρ σ aV A H locs cells slots ls Q hX hH hL h1 h2 hr ht hZ
  exact lv_lstore hX.1 hX.2.1 d hL.has hn rfl (fun ls' hl => k p l e R s m args below meth c D aC ρ σ aV A H locs cells slots ls' Q hX hH (xl_L.put2 (v := .long a) hk hl) h1 h2 hr ht hZ)
/-- a helper with a table -/
def wr_V (μ : XI) (hh : List (Nat × Nat × Nat × Nat)) : Prop := Cond.codeWith μ.1 μ.2.1 μ.2.2.1 μ.2.2.2.1 hh ∈ xl_T ∧ Cond.static μ.1 ∈ xl_T ∧ Cond.initialized μ.1.cls ∈ xl_T ∧ μ.1.cls ≠ "java/lang/invoke/MethodHandle" ∧ μ.1.cls ≠ "java/lang/invoke/VarHandle" ∧ (parseMethodDescriptor μ.1.desc).map (fun d => d.parameters.length) = some μ.2.2.2.2.2.2 ∧ μ.2.2.2.2.1 = 7 ∧ μ.2.2.2.2.2.1 = 130
theorem xn_callSW {N : Nat} {xs : Nat → Int32} {hh : List (Nat × Nat × Nat × Nat)} (π : Nat → Nat) {As As' : List Value} (d : xl_Cs M pc μ pc2) (hv : wr_V μ hh) (hst : st = As.reverse ++ rest) (hn : As.length = μ.2.2.2.2.2.2) (hw : (rest.map fun v => if xl_1 v = true then 1 else 2).sum ≤ 8) (hAs : ∀ ρ σ : Nat → Nat, As.map (xl_v ρ σ) = As'.map (xl_v (fun k => ρ (π k)) σ))
    (hp : xl_pi π h hl) (hok : ∀ j c, hl[j]? = some c → xl_ok π j c) (hc : wr_C μ hh As' hl Po') (hlen : ∀ v h', Po' v h' → h'.length = hl.length ∧ (∀ j c, h'[j]? = some c → xl_ok π j c) ∧ ∀ a, v ≠ some (.ref a))
    (kk : ∀ v h' h1, Po' v h' → xl_back π hl.length h h' h1 → xn_W (some (N, xs, xt_E)) Nn M rc rs pc2 L (v.toList ++ rest) h1 Po) : xn_W (some (N, xs, xt_E)) Nn M (rc + 1) (rs + 6) pc L st h Po := by
  obtain ⟨i, d, rfl, d3, d4, d5⟩ := d
  obtain ⟨w1, w2, w3, w4, w5, w6, w7, w8⟩ := hv
  subst hst
  intro p l e R s m args below meth c D aC ρ σ aV A H locs cells slots ls Q hX hH hL h1 h2 hr ht hZ
  obtain ⟨hK, hP, hD, hS, hE, hA⟩ := id hH
  obtain ⟨g1, g2, g3⟩ := xl_part hH hp hok
  have hT := hX.2.2.2.2.2.1
  have hG : GoodIn xl_T (wr_ws μ hh) := fun w hw => by
    have hm : w ∈ xl_T := by
      rcases List.mem_cons.mp hw with rfl | h
      · exact w1
      · exact h
    exact ⟨hm, good_of_word (xl_Tg w hm)⟩
  have hfr := Nat.le_trans d4 hX.2.2.2.2.2.2.2.1
  have hlo := Nat.le_trans d5 hX.2.2.2.2.2.2.2.2.1
  rw [w7] at hfr
  rw [w8] at hlo
  have hcw : vx_CSW R s args M.1.cls i μ.1 μ.2.1 μ.2.2.1 μ.2.2.2.1 hh (wr_ws μ hh) wr_rm 1 6 μ.2.2.2.2.2.2 := ⟨⟨rfl, rfl, hfr, hlo, pay_in hT hG, List.mem_cons_self⟩, hT _ w1, hT _ w3, ⟨w4, w5⟩, fun sig h => by
    rw [h] at w6
    exact (Option.some.inj w6).symm, hT _ d3, hT _ w2⟩
  have hrun := vx_runSW (As := As.map (xl_v ρ σ)) (rest := rest.map (xl_v ρ σ)) (g := F0 m pc ls ((As.reverse ++ rest).map (xl_v ρ σ))) (H := H) (locs := locs) (cells := cells) (slots := slots) (e := e) (below := below) (meth := meth) ⟨hX.1, hX.2.1, hX.2.2.2.1, hX.2.2.2.2.1, hT⟩ (hc l hX.2.2.2.2.2.2.2.2.2 D aC (fun k => ρ (π k)) σ aV H.size) hcw
    ⟨xt_blind, fun U hU hW => xt_ready hH hZ.2.2.2.2.2 hp hok hU hW (hAs ρ σ)⟩ rfl (by rw [List.length_map]; exact hn) hL.1 (by simp [xl_v]) (lv_room (by rw [xl_cats]; exact hw)) d ⟨by omega, by omega⟩
  refine xl_after hrun hS (fun q _ hq => g3 q hq) g3 (fun v h' H1 locs1 hPo hP1 hD1 hz1 hk1 hS1 => ?_)
  obtain ⟨q1, q2, q3⟩ := hlen v h' hPo
  have hback : ∃ h1, xl_back π hl.length h h' h1 := by
    refine ⟨h.mapIdx (fun k c => if hx : ∃ j, j < hl.length ∧ π j = k then (h'[hx.choose]?).getD c else c), by simp, fun j hj => ?_, fun k hk => ?_⟩
    · have hx : ∃ j', j' < hl.length ∧ π j' = π j := ⟨j, hj, rfl⟩
      have hcj : hx.choose = j := hp.1 _ _ hx.choose_spec.1 hj hx.choose_spec.2
      obtain ⟨g4, g5⟩ := hp.2 j hj
      rw [List.getElem?_mapIdx, List.getElem?_eq_getElem g5]
      simp only [Option.map_some]
      rw [dif_pos hx, hcj, List.getElem?_eq_getElem (by omega)]
      rfl
    · rw [List.getElem?_mapIdx]
      cases hhk : h[k]? with
      | none => rfl
      | some c =>
        simp only [Option.map_some]
        rw [dif_neg (fun ⟨j, hj, ej⟩ => hk j hj ej)]
  obtain ⟨h1', hb⟩ := hback
  have hH1 := xl_joined hH hp hb q1 q2 hP1 hk1 hS1
  have := kk v h' h1' hPo hb p l e R s m args below meth c D aC ρ σ aV A H1 locs1 (cells + 1) (slots + 6) ls Q hX hH1 hL (by omega) (by omega) (fun ρ' v h' H' locs' pc' cells' slots' ls' a0 a1 a2 a3 a4 a5 => hr ρ' v h' H' locs' pc' cells' slots' ls' a0 a1 a2 a3 (by omega) (by omega)) (fun ρ' h' H' locs' pc' cells' slots' ls' a0 a1 a2 a3 a4 a5 a6 => ht ρ' h' H' locs' pc' cells' slots' ls' a0 a1 a2 a3 (by omega) (by omega) a6) hZ
  rw [List.map_append] at this
  have ev : (v.map (xl_v (fun k => ρ (π k)) σ)).toList = v.toList.map (xl_v ρ σ) := by
    cases v with
    | none => rfl
    | some v => cases v <;> first | rfl | exact absurd rfl (q3 _)
  rw [ev]
  exact this
end LW
/-! ===== the law's cells: the class, a row of one long, the model ===== -/
def encZ (x : LSt) (m : MS) (out : Nat → Int) : XH := encL x ++ (xL 1 out :: encM m)
theorem lenM13 (m : MS) : (encM m).length = 13 := rfl
theorem lenZ (x : LSt) (m : MS) (out : Nat → Int) : (encZ x m out).length = 151 := by rw [encZ, List.length_append, lenL137, List.length_cons, lenM13]
theorem encZ_O (x : LSt) (m : MS) (out : Nat → Int) : encZ x m out = (encL x ++ [xL 1 out]) ++ (encM m ++ []) := by rw [encZ]; simp
theorem lenO138 (x : LSt) (out : Nat → Int) : (encL x ++ [xL 1 out]).length = 138 := lenO x out
abbrev lwL (i : Nat) : List (Option Value) := [some (.float 99), some (.ref 0), some (.ref 138), some (.ref 137), some (xi i), none, none, none]
section LC
variable {S : XS} {Nn : Nat} {M μ : XI} {rc rs pc pc2 : Nat} {L : List (Option Value)} {rest : List Value} {Po : Option (Option Value) → XH → Prop}
/-- a call of the class -/
theorem lwX {f : List PV → LSt → (PS → LSt → Prop) → Prop} {as : List PV} {x : LSt} {m : MS} {out : Nat → Int} {K : PS → LSt → Prop} (d : xl_Ca M pc μ pc2) (hv : xl_V μ) (hm : mOk encL bdL μ (atR 0 f)) (hcl : ∃ T N, vwCl[2]? = some (μ.1.cls, T, N)) (hn : as.length = μ.2.2.2.2.2.2) (hnr : as.all pnr = true) (hw : (rest.map fun v => if xl_1 v = true then 1 else 2).sum ≤ 8) (hb : bdL x) (hs : f as x K)
    (kk : ∀ v x', K v x' → bdL x' → xn_W S Nn M rc rs pc2 L (v.map pV ++ rest) (encZ x' m out) Po) : xn_W S Nn M rc rs pc L ((as.map pV).reverse ++ .ref 0 :: rest) (encZ x m out) Po := by
  have g := xn_callR (S := S) (Nn := Nn) (rc := rc) (rs := rs) (L := L) (rest := rest) (Po := Po) [] (xL 1 out :: encM m) d hv hm hcl lenL recL hn hnr hw hb hs (fun v x' hK hb' => by rw [List.nil_append]; exact kk v x' hK hb')
  rw [List.nil_append] at g
  exact g
/-- a call of the model -/
theorem lwM {f : List PV → MS → (PS → MS → Prop) → Prop} {as : List PV} {x : LSt} {m : MS} {out : Nat → Int} {K : PS → MS → Prop} (d : xl_Ca M pc μ pc2) (hv : xl_V μ) (hm : mOk encM bdM μ (atR 0 f)) (hcl : ∃ T N, vwCl[3]? = some (μ.1.cls, T, N)) (hn : as.length = μ.2.2.2.2.2.2) (hnr : as.all pnr = true) (hw : (rest.map fun v => if xl_1 v = true then 1 else 2).sum ≤ 8) (hb : bdM m) (hs : f as m K)
    (kk : ∀ v m', K v m' → bdM m' → xn_W S Nn M rc rs pc2 L (v.map pV ++ rest) (encZ x m' out) Po) : xn_W S Nn M rc rs pc L ((as.map pV).reverse ++ .ref 138 :: rest) (encZ x m out) Po := by
  have g := xn_callR (S := S) (Nn := Nn) (rc := rc) (rs := rs) (L := L) (rest := rest) (Po := Po) (encL x ++ [xL 1 out]) [] d hv hm hcl lenM recM hn hnr hw hb hs (fun v m' hK hb' => by rw [← encZ_O]; exact kk v m' hK hb')
  rw [← encZ_O, lenO138] at g
  exact g
/-- a call of a helper -/
theorem lwW {N : Nat} {xs : Nat → Int32} {hh : List (Nat × Nat × Nat × Nat)} {As : List Value} {x : LSt} {m : MS} {out : Nat → Int} {Ok : Int → Prop} {Bad : Prop} (d : xl_Cs M pc μ pc2) (hv : wr_V μ hh) (hn : As.length = μ.2.2.2.2.2.2) (hw : (rest.map fun v => if xl_1 v = true then 1 else 2).sum ≤ 8)
    (hc : wr_C μ hh As (encL x ++ [xL 1 out]) (fun v h' => (∃ z, xb z ∧ Ok z ∧ v = some (xi 0) ∧ h' = encL x ++ [xL 1 (xup out 0 z)]) ∨ (Bad ∧ v = some (xi 1) ∧ h' = encL x ++ [xL 1 out])))
    (k0 : ∀ z, xb z → Ok z → xn_W (some (N, xs, xt_E)) Nn M rc rs pc2 L (xi 0 :: rest) (encZ x m (xup out 0 z)) Po) (k1 : Bad → xn_W (some (N, xs, xt_E)) Nn M rc rs pc2 L (xi 1 :: rest) (encZ x m out) Po) : xn_W (some (N, xs, xt_E)) Nn M (rc + 1) (rs + 6) pc L (As.reverse ++ rest) (encZ x m out) Po := by
  have e0 : encZ x m out = (encL x ++ [xL 1 out]) ++ encM m := by rw [encZ_O, List.append_nil]
  have hcut : ((encZ x m out).drop 0).take (encL x ++ [xL 1 out]).length = encL x ++ [xL 1 out] := by
    rw [e0, List.drop_zero, List.take_left]
  have hdr : (encZ x m out).drop (0 + (encL x ++ [xL 1 out]).length) = encM m := by
    rw [e0, Nat.zero_add, List.drop_left]
  refine xn_callSW (fun k => 0 + k) d hv rfl hn hw (fun ρ σ => ?_) (xl_pi_add hcut) (fun j c _ => xl_ok_add _ j c) hc (fun v h' q => ?_) (fun v h' h1 q hb => ?_)
  · exact List.map_congr_left (fun v _ => by cases v <;> first | rfl | (show Value.ref (ρ _) = Value.ref (ρ (0 + _)); rw [Nat.zero_add]))
  · rcases q with ⟨z, -, -, rfl, rfl⟩ | ⟨-, rfl, rfl⟩
    · exact ⟨by rw [lenO138, lenO138], fun j c _ => xl_ok_add _ j c, fun a e => by cases e⟩
    · exact ⟨by rw [lenO138], fun j c _ => xl_ok_add _ j c, fun a e => by cases e⟩
  · have hl' : h'.length = (encL x ++ [xL 1 out]).length := by
      rcases q with ⟨z, -, -, rfl, rfl⟩ | ⟨-, rfl, rfl⟩
      · rw [lenO138, lenO138]
      · rfl
    have e := xl_back_add hcut (by rw [lenO138]; decide) hl' hb
    rw [hdr, List.take_zero, List.nil_append] at e
    rcases q with ⟨z, hz, hk, rfl, rfl⟩ | ⟨hk, rfl, rfl⟩
    · have e1 : encZ x m (xup out 0 z) = (encL x ++ [xL 1 (xup out 0 z)]) ++ encM m := by rw [encZ_O, List.append_nil]
      rw [e, ← e1]
      exact k0 z hz hk
    · rw [e, ← e0]
      exact k1 hk
/-- an int of the script -/
theorem lwA {N : Nat} {z : Nat → Int} {Zz : (Nat → Prop) → State → Prop} {st : List Value} {h : XH} {i jn p1 p2 p3 p4 : Nat} {j : Int} (d1 : xl_D M pc (.aload_n 0) 1 p1) (d2 : xl_D M p1 (.iload 4) 2 p2) (d3 : xl_D M p2 (.iconst j) 1 p3) (d4 : xl_D M p3 .iadd 1 p4) (d5 : xl_D M p4 .iaload 1 pc2) (hL0 : xl_n L 0 = some (some (.float 99))) (hL4 : xl_n L 4 = some (some (xi i))) (hj : j = jn) (hi : i + jn < N) (hN : N ≤ 3000) (kk : xn_W (some (N, fun k => iI (z k), Zz)) Nn M rc rs pc2 L (xi (z (i + jn)) :: st) h Po) : xn_W (some (N, fun k => iI (z k), Zz)) Nn M rc rs pc L st h Po := by
  refine xn_saload_n d1 hL0 (xn_iload d2 hL4 (xn_iconst (iI jn) d3 (by rw [hj]; rfl) (xn_iadd d4 ?_)))
  rw [iI_add]
  refine xn_sld d5 (iI_in ⟨by omega, by omega⟩ (by omega) (by omega)) ?_
  rw [iI_nat ⟨by omega, by omega⟩, show ((i : Int) + (jn : Int)).toNat = i + jn by omega]
  exact kk
end LC
end
-- 9801.sa
section
/-! ===== texts: the class's forms ===== -/
section AS
variable {σ : Type} {enc : σ → XH} {bd : σ → Prop} {μ : XI}
def a2s (f : Int → Int → Nat → σ → (PS → σ → Prop) → Prop) : List PV → σ → (PS → σ → Prop) → Prop := fun as s K => match as with
  | [.inl x0, .inl x1, .inr (.inr (.inr j))] => f x0 x1 j s K
  | _ => False
theorem mOVa2s {f : Int → Int → Nat → σ → (PS → σ → Prop) → Prop} (hk : xl_K μ) (hp : ∀ (x0 x1 : Int) (j : Nat), Nat.ble (pw (pR 0 :: [(.inl x0 : PV), (.inl x1 : PV), pS j])) μ.2.2.1 = true) (h : ∀ (x0 x1 : Int) (j : Nat) (s : σ) (K : PS → σ → Prop), f x0 x1 j s K → bd s → wX enc bd μ 0 0 K (fun _ => False) 0 (pe (pR 0 :: [(.inl x0 : PV), (.inl x1 : PV), pS j]) μ.2.2.1) [] s) : mOk enc bd μ (atR 0 (a2s f)) := by
  refine mOk_of hk (fun as s K q => ?_)
  obtain ⟨as, rfl, q1⟩ := atR_inv q
  unfold a2s at q1
  split at q1
  · next x0 x1 j =>
    exact ⟨hp x0 x1 j, fun hb => h x0 x1 j s K q1 hb⟩
  · exact q1.elim
def a0s (f : Nat → σ → (PS → σ → Prop) → Prop) : List PV → σ → (PS → σ → Prop) → Prop := fun as s K => match as with
  | [.inr (.inr (.inr j))] => f j s K
  | _ => False
theorem mOVa0s {f : Nat → σ → (PS → σ → Prop) → Prop} (hk : xl_K μ) (hp : ∀ (j : Nat), Nat.ble (pw (pR 0 :: [pS j])) μ.2.2.1 = true) (h : ∀ (j : Nat) (s : σ) (K : PS → σ → Prop), f j s K → bd s → wX enc bd μ 0 0 K (fun _ => False) 0 (pe (pR 0 :: [pS j]) μ.2.2.1) [] s) : mOk enc bd μ (atR 0 (a0s f)) := by
  refine mOk_of hk (fun as s K q => ?_)
  obtain ⟨as, rfl, q1⟩ := atR_inv q
  unfold a0s at q1
  split at q1
  · next j =>
    exact ⟨hp j, fun hb => h j s K q1 hb⟩
  · exact q1.elim
end AS
theorem sbI_B (j : Nat) (k : Int) : xB (sbI j k) := by
  have h := xb_of (xs_ch j k.toNat)
  exact h
theorem slI_b : ∀ j, j < 9 → 0 ≤ slI j ∧ slI j ≤ 10 := by decide
-- X2_fits: heads []
def tX2_fits : Nat → Blk LSt := fun pc => bif Nat.blt pc 71 then (bif Nat.blt pc 53 then (bif Nat.blt pc 36 then (bif Nat.beq pc 0 then (oIld 2 <| oLook [(107, 36), (110, 72), (115, 54)] 101) else oNo) else (bif Nat.blt pc 52 then (bif Nat.beq pc 36 then (oIld 1 <| oI 97 <| oCLt 52 <| oIld 1 <| oI 103 <| oCGe 52 <| oI 1 <| oTo 53) else oNo) else (bif Nat.beq pc 52 then (oI 0 <| oTo 53) else oNo))) else (bif Nat.blt pc 66 then (bif Nat.blt pc 54 then (bif Nat.beq pc 53 then (oZret) else oNo) else (bif Nat.beq pc 54 then (oIld 1 <| oI 43 <| oCEq 66 <| oIld 1 <| oI 45 <| oCNe 70 <| oTo 66) else oNo)) else (bif Nat.blt pc 70 then (bif Nat.beq pc 66 then (oI 1 <| oTo 71) else oNo) else (bif Nat.beq pc 70 then (oI 0 <| oTo 71) else oNo)))) else (bif Nat.blt pc 100 then (bif Nat.blt pc 72 then (bif Nat.beq pc 71 then (oZret) else oNo) else (bif Nat.blt pc 99 then (bif Nat.beq pc 72 then (oIld 1 <| oI 48 <| oCLt 99 <| oIld 1 <| oI 48 <| oAld 0 <| oGet (fgL) 2 0 <| oGet (fgL) 1 10 <| oGet (fgL) 0 3 <| oAdd <| oCGe 99 <| oI 1 <| oTo 100) else oNo) else (bif Nat.beq pc 99 then (oI 0 <| oTo 100) else oNo))) else (bif Nat.blt pc 117 then (bif Nat.blt pc 101 then (bif Nat.beq pc 100 then (oZret) else oNo) else (bif Nat.beq pc 101 then (oIld 1 <| oI 48 <| oCLt 117 <| oIld 1 <| oI 57 <| oCGt 117 <| oI 1 <| oTo 118) else oNo)) else (bif Nat.blt pc 118 then (bif Nat.beq pc 117 then (oI 0 <| oTo 118) else oNo) else (bif Nat.beq pc 118 then (oZret) else oNo))))
theorem tX2_fits_ok : ∀ pc, bOk (encL) (bdL) mX2_fits 0 0 pc (tX2_fits pc) := fun pc => (tNode (tNode (tNode (tLeaf (okIldn iX2_fits_0 rfl <| okLook (by decide +kernel) (by decide +kernel) (by decide +kernel) iX2_fits_1.1)) (tNode (tLeaf (okIldn iX2_fits_36 rfl <| okBi iX2_fits_37 (by decide) <| okCLt (tl rfl) iX2_fits_39 <| okIldn iX2_fits_42 rfl <| okBi iX2_fits_43 (by decide) <| okCGe (tl rfl) iX2_fits_45 <| okIc iX2_fits_48 <| okGoto (tl rfl) iX2_fits_49)) (tLeaf (okIc iX2_fits_52 <| okTo (tl rfl))))) (tNode (tNode (tLeaf (okZret iX2_fits_53 rfl)) (tLeaf (okIldn iX2_fits_54 rfl <| okBi iX2_fits_55 (by decide) <| okCEq (tl rfl) iX2_fits_57 <| okIldn iX2_fits_60 rfl <| okBi iX2_fits_61 (by decide) <| okCNe (tl rfl) iX2_fits_63 <| okTo (tl rfl)))) (tNode (tLeaf (okIc iX2_fits_66 <| okGoto (tl rfl) iX2_fits_67)) (tLeaf (okIc iX2_fits_70 <| okTo (tl rfl)))))) (tNode (tNode (tLeaf (okZret iX2_fits_71 rfl)) (tNode (tLeaf (okIldn iX2_fits_72 rfl <| okBi iX2_fits_73 (by decide) <| okCLt (tl rfl) iX2_fits_75 <| okIldn iX2_fits_78 rfl <| okBi iX2_fits_79 (by decide) <| okAldn iX2_fits_81 rfl <| okGet (vFgL) iX2_fits_82 <| okGet (vFgL) iX2_fits_85 <| okGet (vFgL) iX2_fits_88 <| okAdd iX2_fits_91 <| okCGe (tl rfl) iX2_fits_92 <| okIc iX2_fits_95 <| okGoto (tl rfl) iX2_fits_96)) (tLeaf (okIc iX2_fits_99 <| okTo (tl rfl))))) (tNode (tNode (tLeaf (okZret iX2_fits_100 rfl)) (tLeaf (okIldn iX2_fits_101 rfl <| okBi iX2_fits_102 (by decide) <| okCLt (tl rfl) iX2_fits_104 <| okIldn iX2_fits_107 rfl <| okBi iX2_fits_108 (by decide) <| okCGt (tl rfl) iX2_fits_110 <| okIc iX2_fits_113 <| okGoto (tl rfl) iX2_fits_114))) (tNode (tLeaf (okIc iX2_fits_117 <| okTo (tl rfl))) (tLeaf (okZret iX2_fits_118 rfl)))))) pc
abbrev lFits (s : LSt) (c f : Int) : Prop := (f = 107 ∧ 97 ≤ c ∧ c < 103) ∨ (f = 110 ∧ 48 ≤ c ∧ c < 48 + wZ (s.2.2 0) 0) ∨ (f = 115 ∧ (c = 43 ∨ c = 45)) ∨ (f ≠ 107 ∧ f ≠ 110 ∧ f ≠ 115 ∧ 48 ≤ c ∧ c ≤ 57)
def sX2_fits : Int → Int → LSt → KL → Prop := fun c f s K => ((xB c ∧ xB f) ∧ 0 ≤ wZ (s.2.2 0) 0 ∧ wZ (s.2.2 0) 0 ≤ 4) ∧ (lFits s c f → K [pI 1] s) ∧ (¬ lFits s c f → K [pI 0] s)
theorem mX2_fits_ok : mOk encL bdL mX2_fits (atR 0 (a2 sX2_fits)) := by
  refine mOVa2 kX2_fits (fun _ _ => rfl) (fun c f s K h hb => wx_J [] 9 tX2_fits_ok rfl (fun J hR hJ => ?_))
  obtain ⟨⟨⟨h1, h2⟩, h3, h4⟩, k1, k0⟩ := h
  have h3 : 0 ≤ wZ (s.2.2 0) 0 := h3
  have h4 : wZ (s.2.2 0) 0 ≤ 4 := h4
  have hw : ((s.2.2 0).2 0).1 = wZ (s.2.2 0) 0 := rfl
  repeat' (first | (refine And.intro ?_ ?_) | (intro hq; first | (exact absurd hq (by omega)) | skip))
  all_goals first | omega | exact hR _ _ (k1 (by omega)) | exact hR _ _ (k0 (by omega))
def cL_X2_fits : Sp LSt := atR 0 (a2 sX2_fits)
theorem qL_X2_fits {M : XI} {rc rs pc pc2 : Nat} (d : xl_Ca M pc mX2_fits pc2) : cOk encL bdL M rc rs pc pc2 3 cL_X2_fits := cSame mX2_fits_ok vX2_fits d lcl rfl lenL recL
-- X2_formMisfit: heads [3]
def tX2_formMisfit : Nat → Blk LSt := fun pc => bif Nat.blt pc 41 then (bif Nat.blt pc 3 then (bif Nat.beq pc 0 then (oI 0 <| oIst 4 <| oM [true, true, true, true, true] (oTo 3)) else oNo) else (bif Nat.beq pc 3 then (oIld 4 <| oAld 3 <| oStrLength <| oCGe 52 <| oIld 1 <| oIld 4 <| oAdd <| oIld 2 <| oCGe 41 <| oAld 0 <| oAld 0 <| oIld 1 <| oIld 4 <| oAdd <| oC2 (cL_X2_signAt) <| oAld 3 <| oIld 4 <| oStrCharat <| oC3 (cL_X2_fits) <| oZNe 46 <| oTo 41) else oNo)) else (bif Nat.blt pc 46 then (bif Nat.beq pc 41 then (oIld 1 <| oIld 4 <| oAdd <| oIret) else oNo) else (bif Nat.blt pc 52 then (bif Nat.beq pc 46 then (oInc 4 1 <| oM [true, true, true, true, true] (oTo 3)) else oNo) else (bif Nat.beq pc 52 then (oI (-1) <| oIret) else oNo)))
theorem tX2_formMisfit_ok : ∀ pc, bOk (encL) (bdL) mX2_formMisfit 0 0 pc (tX2_formMisfit pc) := fun pc => (tNode (tNode (tLeaf (okIc iX2_formMisfit_0 <| okIst iX2_formMisfit_1 (by decide) <| okM (okTo (tl rfl)))) (tLeaf (okIld iX2_formMisfit_3 <| okAldn iX2_formMisfit_5 rfl <| okStrLength iX2_formMisfit_6 <| okCGe (tl rfl) iX2_formMisfit_9 <| okIldn iX2_formMisfit_12 rfl <| okIld iX2_formMisfit_13 <| okAdd iX2_formMisfit_15 <| okIldn iX2_formMisfit_16 rfl <| okCGe (tl rfl) iX2_formMisfit_17 <| okAldn iX2_formMisfit_20 rfl <| okAldn iX2_formMisfit_21 rfl <| okIldn iX2_formMisfit_22 rfl <| okIld iX2_formMisfit_23 <| okAdd iX2_formMisfit_25 <| okC2 (qL_X2_signAt iX2_formMisfit_26) <| okAldn iX2_formMisfit_29 rfl <| okIld iX2_formMisfit_30 <| okStrCharat iX2_formMisfit_32 <| okC3 (qL_X2_fits iX2_formMisfit_35) <| okZNe (tl rfl) iX2_formMisfit_38 <| okTo (tl rfl)))) (tNode (tLeaf (okIldn iX2_formMisfit_41 rfl <| okIld iX2_formMisfit_42 <| okAdd iX2_formMisfit_44 <| okIret iX2_formMisfit_45 rfl)) (tNode (tLeaf (okInc iX2_formMisfit_46 (by decide) <| okGotoM (tl rfl) iX2_formMisfit_49)) (tLeaf (okIc iX2_formMisfit_52 <| okIret iX2_formMisfit_53 rfl))))) pc
def fmL (s : LSt) (f len : Int) (j : Nat) : Nat → Int → Int
  | 0, _ => -1
  | m + 1, k => if f + k < len ∧ lFits s (lSign s (f + k)) (sbI j k) then fmL s f len j m (k + 1) else f + k
def lFm (s : LSt) (f len : Int) (j : Nat) : Int := fmL s f len j (slI j).toNat 0
theorem fmL_b (s : LSt) (f len : Int) (j : Nat) : ∀ (m : Nat) (k : Int), fmL s f len j m k = -1 ∨ (f + k ≤ fmL s f len j m k ∧ fmL s f len j m k < f + k + m)
  | 0, _ => Or.inl rfl
  | m + 1, k => by
    rw [fmL]
    split
    · have := fmL_b s f len j m (k + 1)
      omega
    · omega
theorem X2_formMisfit_l {K : KL} {Pt : LSt → Prop} (s : LSt) (f len : Int) (j : Nat) (hf : 0 ≤ f ∧ f ≤ 1000) (hl : 0 ≤ len ∧ len ≤ 1000) (hj : j < 9) (hz : 0 ≤ wZ (s.2.2 0) 0 ∧ wZ (s.2.2 0) 0 ≤ 4) : ∀ (m : Nat) (k : Int), 0 ≤ k → k ≤ slI j → m = (slI j - k).toNat → K [pI (fmL s f len j m k)] s → wX encL bdL mX2_formMisfit 0 0 K Pt 3 [some (pR 0), some (pI f), some (pI len), some (pS j), some (pI k)] [] s := by
  intro m
  have hs := slI_b j hj
  induction m with
  | zero =>
    intro k h0 h1 hm hK
    refine wx_J [3] 9 tX2_formMisfit_ok rfl (fun J hR hJ => ?_)
    have hK : K [pI (-1)] s := hK
    repeat' (first | (refine And.intro ?_ ?_) | (intro hq; first | (exact absurd hq (by omega)) | skip))
    all_goals first | omega | exact hR _ _ hK
  | succ m ih =>
    intro k h0 h1 hm hK
    refine wx_J [3] 9 tX2_formMisfit_ok rfl (fun J hR hJ => ?_)
    rw [fmL] at hK
    have hc := sbI_B j k
    by_cases c : f + k < len ∧ lFits s (lSign s (f + k)) (sbI j k)
    · rw [if_pos c] at hK
      have g := ih (k + 1) (by omega) (by omega) (by omega) hK
      obtain ⟨c1, c2⟩ := c
      repeat' (first | (refine And.intro ?_ ?_) | (intro hq; first | (exact absurd hq (by omega)) | skip))
      all_goals first | omega | exact hJ _ _ _ _ g | contradiction
    · rw [if_neg c] at hK
      repeat' (first | (refine And.intro ?_ ?_) | (intro hq; first | (exact absurd hq (by omega)) | skip))
      all_goals first | omega | exact hR _ _ hK | contradiction
def sX2_formMisfit : Int → Int → Nat → LSt → KL → Prop := fun f len j s K => ((0 ≤ f ∧ f ≤ 1000) ∧ (0 ≤ len ∧ len ≤ 1000) ∧ j < 9 ∧ 0 ≤ wZ (s.2.2 0) 0 ∧ wZ (s.2.2 0) 0 ≤ 4) ∧ K [pI (lFm s f len j)] s
theorem mX2_formMisfit_ok : mOk encL bdL mX2_formMisfit (atR 0 (a2s sX2_formMisfit)) := by
  refine mOVa2s kX2_formMisfit (fun _ _ _ => rfl) (fun f len j s K h hb => wx_J [3] 9 tX2_formMisfit_ok rfl (fun J hR hJ => ?_))
  obtain ⟨⟨h1, h2, h3, h4⟩, hK⟩ := h
  have hs := slI_b j h3
  exact hJ _ _ _ _ (X2_formMisfit_l s f len j h1 h2 h3 h4 (slI j).toNat 0 (by omega) (by omega) (by omega) hK)
def cL_X2_formMisfit : Sp LSt := atR 0 (a2s sX2_formMisfit)
theorem qL_X2_formMisfit {M : XI} {rc rs pc pc2 : Nat} (d : xl_Ca M pc mX2_formMisfit pc2) : cOk encL bdL M rc rs pc pc2 4 cL_X2_formMisfit := cSame mX2_formMisfit_ok vX2_formMisfit d lcl rfl lenL recL
-- X2_eventsMisfit: heads [2]
def tX2_eventsMisfit : Nat → Blk LSt := fun pc => bif Nat.blt pc 23 then (bif Nat.blt pc 2 then (bif Nat.beq pc 0 then (oI 0 <| oIst 2 <| oM [true, true, true, false] (oTo 2)) else oNo) else (bif Nat.beq pc 2 then (oIld 2 <| oIld 1 <| oCGe 29 <| oAld 0 <| oIld 2 <| oIld 1 <| oS 0 <| oC4 (cL_X2_formMisfit) <| oIst 3 <| oIld 3 <| oZLt 23 <| oIld 3 <| oIret) else oNo)) else (bif Nat.blt pc 29 then (bif Nat.beq pc 23 then (oInc 2 9 <| oM [true, true, true, false] (oTo 2)) else oNo) else (bif Nat.beq pc 29 then (oI (-1) <| oIret) else oNo))
theorem tX2_eventsMisfit_ok : ∀ pc, bOk (encL) (bdL) mX2_eventsMisfit 0 0 pc (tX2_eventsMisfit pc) := fun pc => (tNode (tNode (tLeaf (okIc iX2_eventsMisfit_0 <| okIstn iX2_eventsMisfit_1 rfl (by decide) <| okM (okTo (tl rfl)))) (tLeaf (okIldn iX2_eventsMisfit_2 rfl <| okIldn iX2_eventsMisfit_3 rfl <| okCGe (tl rfl) iX2_eventsMisfit_4 <| okAldn iX2_eventsMisfit_7 rfl <| okIldn iX2_eventsMisfit_8 rfl <| okIldn iX2_eventsMisfit_9 rfl <| okSw (j := 0) (by decide) rfl iX2_eventsMisfit_10 <| okC4 (qL_X2_formMisfit iX2_eventsMisfit_13) <| okIstn iX2_eventsMisfit_16 rfl (by decide) <| okIldn iX2_eventsMisfit_17 rfl <| okZLt (tl rfl) iX2_eventsMisfit_18 <| okIldn iX2_eventsMisfit_21 rfl <| okIret iX2_eventsMisfit_22 rfl))) (tNode (tLeaf (okInc iX2_eventsMisfit_23 (by decide) <| okGotoM (tl rfl) iX2_eventsMisfit_26)) (tLeaf (okIc iX2_eventsMisfit_29 <| okIret iX2_eventsMisfit_30 rfl)))) pc
def emL (s : LSt) (len : Int) : Nat → Int → Int
  | 0, _ => -1
  | m + 1, a => if len ≤ a then -1 else if 0 ≤ lFm s a len 0 then lFm s a len 0 else emL s len m (a + 9)
def lEm (s : LSt) (len : Int) : Int := emL s len 10 0
theorem lFm_b (s : LSt) (f len : Int) (j : Nat) (hj : j < 9) : lFm s f len j = -1 ∨ (f ≤ lFm s f len j ∧ lFm s f len j < f + 10) := by
  have hs := slI_b j hj
  have := fmL_b s f len j (slI j).toNat 0
  unfold lFm
  omega
theorem emL_b (s : LSt) (len : Int) (hl : len ≤ 80) : ∀ (m : Nat) (a : Int), 0 ≤ a → -1 ≤ emL s len m a ∧ emL s len m a ≤ 90
  | 0, _, _ => by rw [emL]; omega
  | m + 1, a, ha => by
    rw [emL]
    split
    · omega
    · split
      · have := lFm_b s a len 0 (by decide)
        omega
      · exact emL_b s len hl m (a + 9) (by omega)
theorem X2_eventsMisfit_l {K : KL} {Pt : LSt → Prop} (s : LSt) (len : Int) (hl : 0 ≤ len ∧ len ≤ 80) (hz : 0 ≤ wZ (s.2.2 0) 0 ∧ wZ (s.2.2 0) 0 ≤ 4) : ∀ (m : Nat) (a : Int), 0 ≤ a → a ≤ 89 → len ≤ a + 9 * m → K [pI (emL s len m a)] s → wX encL bdL mX2_eventsMisfit 0 0 K Pt 2 [some (pR 0), some (pI len), some (pI a), none] [] s := by
  intro m
  induction m with
  | zero =>
    intro a h0 h1 hm hK
    refine wx_J [2] 9 tX2_eventsMisfit_ok rfl (fun J hR hJ => ?_)
    have hK : K [pI (-1)] s := hK
    repeat' (first | (refine And.intro ?_ ?_) | (intro hq; first | (exact absurd hq (by omega)) | skip))
    all_goals first | omega | exact hR _ _ hK
  | succ m ih =>
    intro a h0 h1 hm hK
    refine wx_J [2] 9 tX2_eventsMisfit_ok rfl (fun J hR hJ => ?_)
    rw [emL] at hK
    have hf := lFm_b s a len 0 (by decide)
    by_cases c : len ≤ a
    · rw [if_pos c] at hK
      repeat' (first | (refine And.intro ?_ ?_) | (intro hq; first | (exact absurd hq (by omega)) | skip))
      all_goals first | omega | exact hR _ _ hK
    · rw [if_neg c] at hK
      by_cases c2 : 0 ≤ lFm s a len 0
      · rw [if_pos c2] at hK
        repeat' (first | (refine And.intro ?_ ?_) | (intro hq; first | (exact absurd hq (by omega)) | skip))
        all_goals first | omega | exact hR _ _ hK | decide
      · rw [if_neg c2] at hK
        have g := ih (a + 9) (by omega) (by omega) (by omega) hK
        repeat' (first | (refine And.intro ?_ ?_) | (intro hq; first | (exact absurd hq (by omega)) | skip))
        all_goals first | omega | exact hJ _ _ _ _ g | decide
def sX2_eventsMisfit : Int → LSt → KL → Prop := fun len s K => ((0 ≤ len ∧ len ≤ 80) ∧ 0 ≤ wZ (s.2.2 0) 0 ∧ wZ (s.2.2 0) 0 ≤ 4) ∧ K [pI (lEm s len)] s
theorem mX2_eventsMisfit_ok : mOk encL bdL mX2_eventsMisfit (atR 0 (a1 sX2_eventsMisfit)) := by
  refine mOVa1 kX2_eventsMisfit (fun _ => rfl) (fun len s K h hb => wx_J [2] 9 tX2_eventsMisfit_ok rfl (fun J hR hJ => ?_))
  obtain ⟨⟨h1, h2⟩, hK⟩ := h
  exact hJ _ _ _ _ (X2_eventsMisfit_l s len h1 h2 10 0 (by omega) (by omega) (by omega) hK)
def cL_X2_eventsMisfit : Sp LSt := atR 0 (a1 sX2_eventsMisfit)
theorem qL_X2_eventsMisfit {M : XI} {rc rs pc pc2 : Nat} (d : xl_Ca M pc mX2_eventsMisfit pc2) : cOk encL bdL M rc rs pc pc2 2 cL_X2_eventsMisfit := cSame mX2_eventsMisfit_ok vX2_eventsMisfit d lcl rfl lenL recL
-- X2_actForm: heads []
def tX2_actForm : Nat → Blk LSt := fun pc => bif Nat.blt pc 44 then (bif Nat.blt pc 40 then (bif Nat.beq pc 0 then (oAld 0 <| oIld 1 <| oC2 (cL_X2_signAt) <| oLook [(101, 40), (105, 48), (109, 44)] 52) else oNo) else (bif Nat.beq pc 40 then (oS 1 <| oSret) else oNo)) else (bif Nat.blt pc 48 then (bif Nat.beq pc 44 then (oS 2 <| oSret) else oNo) else (bif Nat.blt pc 52 then (bif Nat.beq pc 48 then (oS 3 <| oSret) else oNo) else (bif Nat.beq pc 52 then (oS 4 <| oSret) else oNo)))
theorem tX2_actForm_ok : ∀ pc, bOk (encL) (bdL) mX2_actForm 0 0 pc (tX2_actForm pc) := fun pc => (tNode (tNode (tLeaf (okAldn iX2_actForm_0 rfl <| okIldn iX2_actForm_1 rfl <| okC2 (qL_X2_signAt iX2_actForm_2) <| okLook (by decide +kernel) (by decide +kernel) (by decide +kernel) iX2_actForm_5.1)) (tLeaf (okSw (j := 1) (by decide) rfl iX2_actForm_40 <| okSret iX2_actForm_43 rfl))) (tNode (tLeaf (okSw (j := 2) (by decide) rfl iX2_actForm_44 <| okSret iX2_actForm_47 rfl)) (tNode (tLeaf (okSw (j := 3) (by decide) rfl iX2_actForm_48 <| okSret iX2_actForm_51 rfl)) (tLeaf (okSw (j := 4) (by decide) rfl iX2_actForm_52 <| okSret iX2_actForm_55 rfl))))) pc
def afJ (s : LSt) (a : Int) : Nat := if lSign s a = 101 then 1 else if lSign s a = 105 then 3 else if lSign s a = 109 then 2 else 4
theorem afJ_b (s : LSt) (a : Int) : afJ s a < 9 := by
  unfold afJ
  repeat' split
  all_goals decide
def sX2_actForm : Int → LSt → KL → Prop := fun a s K => xB a ∧ K [pS (afJ s a)] s
theorem mX2_actForm_ok : mOk encL bdL mX2_actForm (atR 0 (a1 sX2_actForm)) := by
  refine mOVa1 kX2_actForm (fun _ => rfl) (fun a s K h hb => wx_J [] 9 tX2_actForm_ok rfl (fun J hR hJ => ?_))
  obtain ⟨h1, hK⟩ := h
  unfold afJ at hK
  by_cases c1 : lSign s a = 101
  · rw [if_pos c1] at hK
    repeat' (first | (refine And.intro ?_ ?_) | (intro hq; first | (exact absurd hq (by omega)) | skip))
    all_goals first | omega | exact hR _ _ hK
  · rw [if_neg c1] at hK
    by_cases c2 : lSign s a = 105
    · rw [if_pos c2] at hK
      repeat' (first | (refine And.intro ?_ ?_) | (intro hq; first | (exact absurd hq (by omega)) | skip))
      all_goals first | omega | exact hR _ _ hK
    · rw [if_neg c2] at hK
      by_cases c3 : lSign s a = 109
      · rw [if_pos c3] at hK
        repeat' (first | (refine And.intro ?_ ?_) | (intro hq; first | (exact absurd hq (by omega)) | skip))
        all_goals first | omega | exact hR _ _ hK
      · rw [if_neg c3] at hK
        repeat' (first | (refine And.intro ?_ ?_) | (intro hq; first | (exact absurd hq (by omega)) | skip))
        all_goals first | omega | exact hR _ _ hK
def cL_X2_actForm : Sp LSt := atR 0 (a1 sX2_actForm)
theorem qL_X2_actForm {M : XI} {rc rs pc pc2 : Nat} (d : xl_Ca M pc mX2_actForm pc2) : cOk encL bdL M rc rs pc pc2 2 cL_X2_actForm := cSame mX2_actForm_ok vX2_actForm d lcl rfl lenL recL
-- X2_dayMisfit: heads [4]
def tX2_dayMisfit : Nat → Blk LSt := fun pc => bif Nat.blt pc 32 then (bif Nat.blt pc 4 then (bif Nat.beq pc 0 then (oI 0 <| oIst 2 <| oI 0 <| oIst 3 <| oM [true, true, true, true, false, false] (oTo 4)) else oNo) else (bif Nat.beq pc 4 then (oIld 3 <| oI 80 <| oCGe 68 <| oIld 2 <| oIld 1 <| oCGe 68 <| oAld 0 <| oIld 2 <| oC2 (cL_X2_actForm) <| oAst 4 <| oAld 4 <| oStrIsempty <| oZEq 32 <| oIld 2 <| oIret) else oNo)) else (bif Nat.blt pc 52 then (bif Nat.beq pc 32 then (oAld 0 <| oIld 2 <| oI 1 <| oAdd <| oIld 1 <| oAld 4 <| oC4 (cL_X2_formMisfit) <| oIst 5 <| oIld 5 <| oZLt 52 <| oIld 5 <| oIret) else oNo) else (bif Nat.blt pc 68 then (bif Nat.beq pc 52 then (oIld 2 <| oI 1 <| oAld 4 <| oStrLength <| oAdd <| oAdd <| oIst 2 <| oInc 3 1 <| oM [true, true, true, true, false, false] (oTo 4)) else oNo) else (bif Nat.beq pc 68 then (oI (-1) <| oIret) else oNo)))
theorem tX2_dayMisfit_ok : ∀ pc, bOk (encL) (bdL) mX2_dayMisfit 0 0 pc (tX2_dayMisfit pc) := fun pc => (tNode (tNode (tLeaf (okIc iX2_dayMisfit_0 <| okIstn iX2_dayMisfit_1 rfl (by decide) <| okIc iX2_dayMisfit_2 <| okIstn iX2_dayMisfit_3 rfl (by decide) <| okM (okTo (tl rfl)))) (tLeaf (okIldn iX2_dayMisfit_4 rfl <| okBi iX2_dayMisfit_5 (by decide) <| okCGe (tl rfl) iX2_dayMisfit_7 <| okIldn iX2_dayMisfit_10 rfl <| okIldn iX2_dayMisfit_11 rfl <| okCGe (tl rfl) iX2_dayMisfit_12 <| okAldn iX2_dayMisfit_15 rfl <| okIldn iX2_dayMisfit_16 rfl <| okC2 (qL_X2_actForm iX2_dayMisfit_17) <| okAst iX2_dayMisfit_20 (by decide) <| okAld iX2_dayMisfit_22 <| okStrIsempty iX2_dayMisfit_24 <| okZEq (tl rfl) iX2_dayMisfit_27 <| okIldn iX2_dayMisfit_30 rfl <| okIret iX2_dayMisfit_31 rfl))) (tNode (tLeaf (okAldn iX2_dayMisfit_32 rfl <| okIldn iX2_dayMisfit_33 rfl <| okIc iX2_dayMisfit_34 <| okAdd iX2_dayMisfit_35 <| okIldn iX2_dayMisfit_36 rfl <| okAld iX2_dayMisfit_37 <| okC4 (qL_X2_formMisfit iX2_dayMisfit_39) <| okIst iX2_dayMisfit_42 (by decide) <| okIld iX2_dayMisfit_44 <| okZLt (tl rfl) iX2_dayMisfit_46 <| okIld iX2_dayMisfit_49 <| okIret iX2_dayMisfit_51 rfl)) (tNode (tLeaf (okIldn iX2_dayMisfit_52 rfl <| okIc iX2_dayMisfit_53 <| okAld iX2_dayMisfit_54 <| okStrLength iX2_dayMisfit_56 <| okAdd iX2_dayMisfit_59 <| okAdd iX2_dayMisfit_60 <| okIstn iX2_dayMisfit_61 rfl (by decide) <| okInc iX2_dayMisfit_62 (by decide) <| okGotoM (tl rfl) iX2_dayMisfit_65)) (tLeaf (okIc iX2_dayMisfit_68 <| okIret iX2_dayMisfit_69 rfl))))) pc
def dmL (s : LSt) (len : Int) : Nat → Int → Int
  | 0, _ => -1
  | m + 1, a => if len ≤ a then -1 else if slI (afJ s a) = 0 then a else if 0 ≤ lFm s (a + 1) len (afJ s a) then lFm s (a + 1) len (afJ s a) else dmL s len m (a + (1 + slI (afJ s a)))
def lDm (s : LSt) (len : Int) : Int := dmL s len 80 0
theorem dmL_b (s : LSt) (len : Int) (hl : len ≤ 80) : ∀ (m : Nat) (a : Int), 0 ≤ a → -1 ≤ dmL s len m a ∧ dmL s len m a ≤ 91
  | 0, _, _ => by rw [dmL]; omega
  | m + 1, a, ha => by
    rw [dmL]
    have hs := slI_b (afJ s a) (afJ_b s a)
    split
    · omega
    · split
      · omega
      · split
        · have := lFm_b s (a + 1) len (afJ s a) (afJ_b s a)
          omega
        · exact dmL_b s len hl m _ (by omega)
theorem X2_dayMisfit_l {K : KL} {Pt : LSt → Prop} (s : LSt) (len : Int) (hl : 0 ≤ len ∧ len ≤ 80) (hz : 0 ≤ wZ (s.2.2 0) 0 ∧ wZ (s.2.2 0) 0 ≤ 4) : ∀ (m : Nat) (a n : Int), 0 ≤ a → a ≤ 99 → 0 ≤ n → n ≤ 80 → m = (80 - n).toNat → K [pI (dmL s len m a)] s → wX encL bdL mX2_dayMisfit 0 0 K Pt 4 [some (pR 0), some (pI len), some (pI a), some (pI n), none, none] [] s := by
  intro m
  induction m with
  | zero =>
    intro a n h0 h1 h2 h3 hm hK
    refine wx_J [4] 9 tX2_dayMisfit_ok rfl (fun J hR hJ => ?_)
    have hK : K [pI (-1)] s := hK
    repeat' (first | (refine And.intro ?_ ?_) | (intro hq; first | (exact absurd hq (by omega)) | skip))
    all_goals first | omega | exact hR _ _ hK
  | succ m ih =>
    intro a n h0 h1 h2 h3 hm hK
    refine wx_J [4] 9 tX2_dayMisfit_ok rfl (fun J hR hJ => ?_)
    rw [dmL] at hK
    have hj := afJ_b s a
    have hs := slI_b (afJ s a) hj
    have hf := lFm_b s (a + 1) len (afJ s a) hj
    by_cases c : len ≤ a
    · rw [if_pos c] at hK
      repeat' (first | (refine And.intro ?_ ?_) | (intro hq; first | (exact absurd hq (by omega)) | skip))
      all_goals first | omega | exact hR _ _ hK
    · rw [if_neg c] at hK
      by_cases c1 : slI (afJ s a) = 0
      · rw [if_pos c1] at hK
        have e : (if slI (afJ s a) = 0 then (1 : Int) else 0) = 1 := if_pos c1
        repeat' (first | (refine And.intro ?_ ?_) | (intro hq; first | (exact absurd hq (by omega)) | skip))
        all_goals first | omega | exact hR _ _ hK | exact hj
      · rw [if_neg c1] at hK
        have e : (if slI (afJ s a) = 0 then (1 : Int) else 0) = 0 := if_neg c1
        by_cases c2 : 0 ≤ lFm s (a + 1) len (afJ s a)
        · rw [if_pos c2] at hK
          repeat' (first | (refine And.intro ?_ ?_) | (intro hq; first | (exact absurd hq (by omega)) | skip))
          all_goals first | omega | exact hR _ _ hK | exact hj
        · rw [if_neg c2] at hK
          have g := ih _ (n + 1) (by omega) (by omega) (by omega) (by omega) (by omega) hK
          repeat' (first | (refine And.intro ?_ ?_) | (intro hq; first | (exact absurd hq (by omega)) | skip))
          all_goals first | omega | exact hJ _ _ _ _ g | exact hj
def sX2_dayMisfit : Int → LSt → KL → Prop := fun len s K => ((0 ≤ len ∧ len ≤ 80) ∧ 0 ≤ wZ (s.2.2 0) 0 ∧ wZ (s.2.2 0) 0 ≤ 4) ∧ K [pI (lDm s len)] s
theorem mX2_dayMisfit_ok : mOk encL bdL mX2_dayMisfit (atR 0 (a1 sX2_dayMisfit)) := by
  refine mOVa1 kX2_dayMisfit (fun _ => rfl) (fun len s K h hb => wx_J [4] 9 tX2_dayMisfit_ok rfl (fun J hR hJ => ?_))
  obtain ⟨⟨h1, h2⟩, hK⟩ := h
  exact hJ _ _ _ _ (X2_dayMisfit_l s len h1 h2 80 0 0 (by omega) (by omega) (by omega) (by omega) (by omega) hK)
def cL_X2_dayMisfit : Sp LSt := atR 0 (a1 sX2_dayMisfit)
theorem qL_X2_dayMisfit {M : XI} {rc rs pc pc2 : Nat} (d : xl_Ca M pc mX2_dayMisfit pc2) : cOk encL bdL M rc rs pc pc2 2 cL_X2_dayMisfit := cSame mX2_dayMisfit_ok vX2_dayMisfit d lcl rfl lenL recL
end
-- 9802.sb
section
/-! ===== texts: events and day of the class ===== -/
-- X2_events: heads [68]
def tX2_events : Nat → Blk LSt := fun pc => bif Nat.blt pc 53 then (bif Nat.blt pc 19 then (bif Nat.beq pc 0 then (oAld 0 <| oC1 (cL_X2_takeText) <| oIst 1 <| oAld 0 <| oIld 1 <| oC2 (cL_X2_eventsMisfit) <| oIst 2 <| oIld 2 <| oZLt 19 <| oI (-1) <| oIld 2 <| oSub <| oIret) else oNo) else (bif Nat.blt pc 45 then (bif Nat.beq pc 19 then (oIld 1 <| oI 9 <| oDiv <| oIst 3 <| oAld 0 <| oGet (fgL) 2 0 <| oGet (fgL) 1 14 <| oGet (fgL) 0 3 <| oIld 3 <| oAdd <| oI 160 <| oCLe 45 <| oI (-3) <| oIret) else oNo) else (bif Nat.beq pc 45 then (oIld 3 <| oZLe 53 <| oAld 0 <| oC1 (cL_X2_remember) <| oTo 53) else oNo))) else (bif Nat.blt pc 87 then (bif Nat.blt pc 68 then (bif Nat.beq pc 53 then (oAld 0 <| oGet (fgL) 2 0 <| oGet (fgL) 1 4 <| oIst 4 <| oI 0 <| oIst 5 <| oI 0 <| oIst 6 <| oM [true, true, false, false, true, true, true] (oTo 68)) else oNo) else (bif Nat.beq pc 68 then (oIld 6 <| oIld 1 <| oCGe 93 <| oAld 0 <| oIld 6 <| oC2 (cL_X2_comeEventAt) <| oI 2 <| oCEq 87 <| oInc 5 1 <| oTo 87) else oNo)) else (bif Nat.blt pc 93 then (bif Nat.beq pc 87 then (oInc 6 9 <| oM [true, true, false, false, true, true, true] (oTo 68)) else oNo) else (bif Nat.beq pc 93 then (oAld 0 <| oAld 0 <| oGet (fgL) 2 0 <| oGet (fgL) 1 4 <| oIld 4 <| oSubW <| oI2l <| oAld 0 <| oGet (fgL) 2 0 <| oGet (fgL) 1 3 <| oI2l <| oC3 (cL_X2_tellTwo) <| oIld 5 <| oIret) else oNo)))
theorem tX2_events_ok : ∀ pc, bOk (encL) (bdL) mX2_events 0 0 pc (tX2_events pc) := fun pc => (tNode (tNode (tLeaf (okAldn iX2_events_0 rfl <| okC1 (qL_X2_takeText iX2_events_1) <| okIstn iX2_events_4 rfl (by decide) <| okAldn iX2_events_5 rfl <| okIldn iX2_events_6 rfl <| okC2 (qL_X2_eventsMisfit iX2_events_7) <| okIstn iX2_events_10 rfl (by decide) <| okIldn iX2_events_11 rfl <| okZLt (tl rfl) iX2_events_12 <| okIc iX2_events_15 <| okIldn iX2_events_16 rfl <| okSub iX2_events_17 <| okIret iX2_events_18 rfl)) (tNode (tLeaf (okIldn iX2_events_19 rfl <| okBi iX2_events_20 (by decide) <| okDiv iX2_events_22 <| okIstn iX2_events_23 rfl (by decide) <| okAldn iX2_events_24 rfl <| okGet (vFgL) iX2_events_25 <| okGet (vFgL) iX2_events_28 <| okGet (vFgL) iX2_events_31 <| okIldn iX2_events_34 rfl <| okAdd iX2_events_35 <| okSi iX2_events_36 (by decide) <| okCLe (tl rfl) iX2_events_39 <| okBi iX2_events_42 (by decide) <| okIret iX2_events_44 rfl)) (tLeaf (okIldn iX2_events_45 rfl <| okZLe (tl rfl) iX2_events_46 <| okAldn iX2_events_49 rfl <| okC1 (qL_X2_remember iX2_events_50) <| okTo (tl rfl))))) (tNode (tNode (tLeaf (okAldn iX2_events_53 rfl <| okGet (vFgL) iX2_events_54 <| okGet (vFgL) iX2_events_57 <| okIst iX2_events_60 (by decide) <| okIc iX2_events_62 <| okIst iX2_events_63 (by decide) <| okIc iX2_events_65 <| okIst iX2_events_66 (by decide) <| okM (okTo (tl rfl)))) (tLeaf (okIld iX2_events_68 <| okIldn iX2_events_70 rfl <| okCGe (tl rfl) iX2_events_71 <| okAldn iX2_events_74 rfl <| okIld iX2_events_75 <| okC2 (qL_X2_comeEventAt iX2_events_77) <| okIc iX2_events_80 <| okCEq (tl rfl) iX2_events_81 <| okInc iX2_events_84 (by decide) <| okTo (tl rfl)))) (tNode (tLeaf (okInc iX2_events_87 (by decide) <| okGotoM (tl rfl) iX2_events_90)) (tLeaf (okAldn iX2_events_93 rfl <| okAldn iX2_events_94 rfl <| okGet (vFgL) iX2_events_95 <| okGet (vFgL) iX2_events_98 <| okIld iX2_events_101 <| okSubW iX2_events_103 <| okI2l iX2_events_104 <| okAldn iX2_events_105 rfl <| okGet (vFgL) iX2_events_106 <| okGet (vFgL) iX2_events_109 <| okI2l iX2_events_112 <| okC3 (qL_X2_tellTwo iX2_events_113) <| okIld iX2_events_116 <| okIret iX2_events_118 rfl))))) pc
def evL (len : Int) : Nat → Int → Int → LSt → Int × LSt
  | 0, _, g, s => (g, s)
  | m + 1, a, g, s => if len ≤ a then (g, s) else evL len m (a + 9) (if lCEF s a = 2 then g else g + 1) (lCEA s a)
def fEv3 (p : Int × LSt) (b : Int) : Int × LSt := (p.1, lTell2 p.2 (wI ((p.2.2.2 0).1 4 - b)) ((p.2.2.2 0).1 3))
def fEv2 (s : LSt) (len : Int) : Int × LSt := fEv3 (evL len 10 0 0 s) ((s.2.2 0).1 4)
def fEv1 (s : LSt) (len : Int) : Int × LSt := if 0 ≤ lEm s len then (-1 - lEm s len, s) else if 160 < wZ (s.2.2 0) 4 + len / 9 then (-3, s) else if 0 < len / 9 then fEv2 (lRem s) len else fEv2 s len
def fEvents (s : LSt) : Int × LSt := fEv1 (setS s 4 0) (s.1 4)
theorem wok_CEA {s : LSt} {a : Int} (h : wok (s.2.2 0)) : wok ((lCEA s a).2.2 0) := wok_ComeE (w := s.2.2 0) h
theorem lCEF_b (s : LSt) (a : Int) : 0 ≤ lCEF s a ∧ lCEF s a ≤ 2 := by
  unfold lCEF wFate
  repeat' split
  all_goals omega
theorem X2_events_l {K : KL} {Pt : LSt → Prop} (len b : Int) (hl : 0 ≤ len ∧ len ≤ 80) (hb0 : xB b) : ∀ (m : Nat) (a g : Int) (s : LSt), wok (s.2.2 0) → 0 ≤ a → a ≤ 89 → len ≤ a + 9 * m → 0 ≤ g → g ≤ a → K [pI (fEv3 (evL len m a g s) b).1] (fEv3 (evL len m a g s) b).2 → wX encL bdL mX2_events 0 0 K Pt 68 [some (pR 0), some (pI len), none, none, some (pI b), some (pI g), some (pI a)] [] s := by
  intro m
  have fin : ∀ (a g : Int) (s : LSt), 0 ≤ a → a ≤ 89 → len ≤ a → 0 ≤ g → g ≤ a → K [pI (fEv3 (g, s) b).1] (fEv3 (g, s) b).2 → wX encL bdL mX2_events 0 0 K Pt 68 [some (pR 0), some (pI len), none, none, some (pI b), some (pI g), some (pI a)] [] s := by
    intro a g s h0 h1 h2 h3 h4 hK
    refine wx_J [68] 9 tX2_events_ok rfl (fun J hR hJ => ?_)
    have hK : K [pI g] (lTell2 s (wI ((s.2.2 0).1 4 - b)) ((s.2.2 0).1 3)) := hK
    repeat' (first | (refine And.intro ?_ ?_) | (intro hq; first | (exact absurd hq (by omega)) | skip))
    all_goals first | omega | exact hR _ _ hK | assumption
  induction m with
  | zero =>
    intro a g s hw h0 h1 hm hg0 hg1 hK
    exact fin a g s h0 h1 (by omega) hg0 hg1 hK
  | succ m ih =>
    intro a g s hw h0 h1 hm hg0 hg1 hK
    rw [evL] at hK
    by_cases c : len ≤ a
    · rw [if_pos c] at hK
      exact fin a g s h0 h1 c hg0 hg1 hK
    · rw [if_neg c] at hK
      have hf := lCEF_b s a
      refine wx_J [68] 9 tX2_events_ok rfl (fun J hR hJ => ?_)
      by_cases c2 : lCEF s a = 2
      · rw [if_pos c2] at hK
        have g1 := ih (a + 9) g _ (wok_CEA hw) (by omega) (by omega) (by omega) (by omega) (by omega) hK
        repeat' (first | (refine And.intro ?_ ?_) | (intro hq; first | (exact absurd hq (by omega)) | skip))
        all_goals first | omega | exact hJ _ _ _ _ g1 | exact (hw _ (by assumption)).1 | exact (hw _ (by assumption)).2
      · rw [if_neg c2] at hK
        have g1 := ih (a + 9) (g + 1) _ (wok_CEA hw) (by omega) (by omega) (by omega) (by omega) (by omega) hK
        repeat' (first | (refine And.intro ?_ ?_) | (intro hq; first | (exact absurd hq (by omega)) | skip))
        all_goals first | omega | exact hJ _ _ _ _ g1 | exact (hw _ (by assumption)).1 | exact (hw _ (by assumption)).2
def sX2_events : LSt → KL → Prop := fun s K => lok s ∧ K [pI (fEvents s).1] (fEvents s).2
theorem mX2_events_ok : mOk encL bdL mX2_events (atR 0 (a0 sX2_events)) := by
  refine mOVa0 kX2_events (fun _ => rfl) (fun s K h hb => wx_J [68] 9 tX2_events_ok rfl (fun J hR hJ => ?_))
  obtain ⟨⟨hu, h3, h4, hw⟩, hK⟩ := h
  have hz0 := hw 0 (by decide) 0 (by decide)
  have hz4 := hw 0 (by decide) 4 (by decide)
  have hz : 0 ≤ wZ ((setS s 4 0).2.2 0) 0 ∧ wZ ((setS s 4 0).2.2 0) 0 ≤ 4 := hz0
  have hz160 : wZ ((setS s 4 0).2.2 0) 4 ≤ 160 ∧ 0 ≤ wZ ((setS s 4 0).2.2 0) 4 := ⟨hz4.2, hz4.1⟩
  have hw0 : wok ((setS s 4 0).2.2 0) := hw 0 (by decide)
  have hu0 : uok (setS s 4 0) := hu
  have hrem : ∀ s : LSt, wok (s.2.2 0) → wok ((lRem s).2.2 0) := fun s h => by rw [lRem_0]; exact h
  have hb1 : bdL (setS s 4 0) := bdL_S hb ⟨by omega, by omega⟩
  unfold fEvents at hK
  refine fun _ => ?_
  generalize es : setS s 4 0 = u at hK hz hz160 hw0 hu0 hb1 ⊢
  generalize s.1 4 = len at h4 hK ⊢
  have he := emL_b u len h4.2 10 0 (by omega)
  have he : -1 ≤ lEm u len ∧ lEm u len ≤ 90 := he
  unfold fEv1 at hK
  have hv4 : ((u.2.2 0).2 4).1 = wZ (u.2.2 0) 4 := rfl
  have x4 : xB ((u.2.2 0).1 4) := (hb1.2.2 0).1 4
  have x4r : xB (((lRem u).2.2 0).1 4) := by rw [lRem_0]; exact x4
  obtain ⟨⟨u1, u2⟩, u3, u4⟩ := hu0
  by_cases c1 : 0 ≤ lEm u len
  · rw [if_pos c1] at hK
    repeat' (first | (refine And.intro ?_ ?_) | (intro hq; first | (exact absurd hq (by omega)) | skip))
    all_goals first | omega | exact hR _ _ hK
  · rw [if_neg c1] at hK
    by_cases c2 : 160 < wZ (u.2.2 0) 4 + len / 9
    · rw [if_pos c2] at hK
      repeat' (first | (refine And.intro ?_ ?_) | (intro hq; first | (exact absurd hq (by omega)) | skip))
      all_goals first | omega | exact hR _ _ hK
    · rw [if_neg c2] at hK
      by_cases c3 : 0 < len / 9
      · rw [if_pos c3] at hK
        have g1 := X2_events_l (Pt := fun _ => False) len (((lRem u).2.2 0).1 4) h4 x4r 10 0 0 (lRem u) (hrem u hw0) (by omega) (by omega) (by omega) (by omega) (by omega) hK
        repeat' (first | (refine And.intro ?_ ?_) | (intro hq; first | (exact absurd hq (by omega)) | skip))
        all_goals first | omega | exact hJ _ _ _ _ g1 | exact (hw0 _ (by assumption)).1 | exact (hw0 _ (by assumption)).2
      · rw [if_neg c3] at hK
        have g1 := X2_events_l (Pt := fun _ => False) len ((u.2.2 0).1 4) h4 x4 10 0 0 u hw0 (by omega) (by omega) (by omega) (by omega) (by omega) hK
        repeat' (first | (refine And.intro ?_ ?_) | (intro hq; first | (exact absurd hq (by omega)) | skip))
        all_goals first | omega | exact hJ _ _ _ _ g1
-- X2_day: heads [39]
def tX2_day : Nat → Blk LSt := fun pc => bif Nat.blt pc 67 then (bif Nat.blt pc 19 then (bif Nat.beq pc 0 then (oAld 0 <| oC1 (cL_X2_takeText) <| oIst 1 <| oAld 0 <| oIld 1 <| oC2 (cL_X2_dayMisfit) <| oIst 2 <| oIld 2 <| oZLt 19 <| oI (-1) <| oIld 2 <| oSub <| oIret) else oNo) else (bif Nat.blt pc 39 then (bif Nat.beq pc 19 then (oAld 0 <| oGet (fgL) 2 0 <| oGet (fgL) 1 4 <| oIst 3 <| oI 0 <| oIst 4 <| oI 0 <| oIst 5 <| oI 0 <| oIst 6 <| oI 0 <| oIst 7 <| oM [true, true, false, true, true, true, true, true] (oTo 39)) else oNo) else (bif Nat.beq pc 39 then (oIld 7 <| oI 80 <| oCGe 107 <| oIld 6 <| oIld 1 <| oCGe 107 <| oAld 0 <| oIld 6 <| oC2 (cL_X2_actRefusal) <| oZGe 67 <| oI 1 <| oIst 5 <| oTo 107) else oNo))) else (bif Nat.blt pc 76 then (bif Nat.beq pc 67 then (oIld 4 <| oZNe 76 <| oAld 0 <| oC1 (cL_X2_remember) <| oTo 76) else oNo) else (bif Nat.blt pc 107 then (bif Nat.beq pc 76 then (oAld 0 <| oIld 6 <| oC2 (cL_X2_comeAct) <| oInc 4 1 <| oIld 6 <| oI 1 <| oAld 0 <| oIld 6 <| oC2 (cL_X2_actForm) <| oStrLength <| oAdd <| oAdd <| oIst 6 <| oInc 7 1 <| oM [true, true, false, true, true, true, true, true] (oTo 39)) else oNo) else (bif Nat.beq pc 107 then (oAld 0 <| oIld 5 <| oI2l <| oAld 0 <| oGet (fgL) 2 0 <| oGet (fgL) 1 4 <| oIld 3 <| oSubW <| oI2l <| oC3 (cL_X2_tellTwo) <| oIld 4 <| oIret) else oNo)))
theorem tX2_day_ok : ∀ pc, bOk (encL) (bdL) mX2_day 0 0 pc (tX2_day pc) := fun pc => (tNode (tNode (tLeaf (okAldn iX2_day_0 rfl <| okC1 (qL_X2_takeText iX2_day_1) <| okIstn iX2_day_4 rfl (by decide) <| okAldn iX2_day_5 rfl <| okIldn iX2_day_6 rfl <| okC2 (qL_X2_dayMisfit iX2_day_7) <| okIstn iX2_day_10 rfl (by decide) <| okIldn iX2_day_11 rfl <| okZLt (tl rfl) iX2_day_12 <| okIc iX2_day_15 <| okIldn iX2_day_16 rfl <| okSub iX2_day_17 <| okIret iX2_day_18 rfl)) (tNode (tLeaf (okAldn iX2_day_19 rfl <| okGet (vFgL) iX2_day_20 <| okGet (vFgL) iX2_day_23 <| okIstn iX2_day_26 rfl (by decide) <| okIc iX2_day_27 <| okIst iX2_day_28 (by decide) <| okIc iX2_day_30 <| okIst iX2_day_31 (by decide) <| okIc iX2_day_33 <| okIst iX2_day_34 (by decide) <| okIc iX2_day_36 <| okIst iX2_day_37 (by decide) <| okM (okTo (tl rfl)))) (tLeaf (okIld iX2_day_39 <| okBi iX2_day_41 (by decide) <| okCGe (tl rfl) iX2_day_43 <| okIld iX2_day_46 <| okIldn iX2_day_48 rfl <| okCGe (tl rfl) iX2_day_49 <| okAldn iX2_day_52 rfl <| okIld iX2_day_53 <| okC2 (qL_X2_actRefusal iX2_day_55) <| okZGe (tl rfl) iX2_day_58 <| okIc iX2_day_61 <| okIst iX2_day_62 (by decide) <| okGoto (tl rfl) iX2_day_64)))) (tNode (tLeaf (okIld iX2_day_67 <| okZNe (tl rfl) iX2_day_69 <| okAldn iX2_day_72 rfl <| okC1 (qL_X2_remember iX2_day_73) <| okTo (tl rfl))) (tNode (tLeaf (okAldn iX2_day_76 rfl <| okIld iX2_day_77 <| okC2 (qL_X2_comeAct iX2_day_79) <| okInc iX2_day_82 (by decide) <| okIld iX2_day_85 <| okIc iX2_day_87 <| okAldn iX2_day_88 rfl <| okIld iX2_day_89 <| okC2 (qL_X2_actForm iX2_day_91) <| okStrLength iX2_day_94 <| okAdd iX2_day_97 <| okAdd iX2_day_98 <| okIst iX2_day_99 (by decide) <| okInc iX2_day_101 (by decide) <| okGotoM (tl rfl) iX2_day_104)) (tLeaf (okAldn iX2_day_107 rfl <| okIld iX2_day_108 <| okI2l iX2_day_110 <| okAldn iX2_day_111 rfl <| okGet (vFgL) iX2_day_112 <| okGet (vFgL) iX2_day_115 <| okIldn iX2_day_118 rfl <| okSubW iX2_day_119 <| okI2l iX2_day_120 <| okC3 (qL_X2_tellTwo iX2_day_121) <| okIld iX2_day_124 <| okIret iX2_day_126 rfl))))) pc
def dyL (len : Int) : Nat → Int → Int → LSt → Int × Int × LSt
  | 0, _, d, s => (d, 0, s)
  | m + 1, a, d, s => if len ≤ a then (d, 0, s) else if lActR s a < 0 then (d, 1, s) else if d = 0 then dyL len m (a + (1 + slI (afJ (lAct (lRem s) a) a))) (d + 1) (lAct (lRem s) a) else dyL len m (a + (1 + slI (afJ (lAct s a) a))) (d + 1) (lAct s a)
def fDy3 (p : Int × Int × LSt) (b : Int) : Int × LSt := (p.1, lTell2 p.2.2 p.2.1 (wI ((p.2.2.2.2 0).1 4 - b)))
def fDy1 (s : LSt) (len : Int) : Int × LSt := if 0 ≤ lDm s len then (-1 - lDm s len, s) else fDy3 (dyL len 80 0 0 s) ((s.2.2 0).1 4)
def fDay (s : LSt) : Int × LSt := fDy1 (setS s 4 0) (s.1 4)
theorem wok_Act {s : LSt} {a : Int} (h : wok (s.2.2 0)) : wok ((lAct s a).2.2 0) := by
  show wok (if _ then _ else _)
  split
  · exact wok_ComeE h
  · split
    · exact wok_ComeM h
    · exact wok_ComeI h
theorem uok_Rem {s : LSt} (h : uok s) : uok (lRem s) := by
  unfold lRem
  dsimp only
  split
  · exact ⟨h.1, by show 0 ≤ s.1 1 + 1; omega, by show s.1 1 + 1 ≤ 6; omega⟩
  · exact ⟨⟨Int.tmod_nonneg _ (by omega), Int.tmod_lt_of_pos _ (by decide)⟩, h.2⟩
theorem lActR_b (s : LSt) (a : Int) : -3 ≤ lActR s a ∧ lActR s a ≤ 0 := by
  have := lIn_b s
  unfold lActR lEvR lMkR lIdR
  repeat' split
  all_goals omega
theorem X2_day_l {K : KL} {Pt : LSt → Prop} (len b : Int) (hl : 0 ≤ len ∧ len ≤ 80) (hb0 : xB b) : ∀ (m : Nat) (a d n : Int) (s : LSt), wok (s.2.2 0) → uok s → 0 ≤ a → a ≤ 99 → 0 ≤ d → d ≤ n → n ≤ 80 → m = (80 - n).toNat → K [pI (fDy3 (dyL len m a d s) b).1] (fDy3 (dyL len m a d s) b).2 → wX encL bdL mX2_day 0 0 K Pt 39 [some (pR 0), some (pI len), none, some (pI b), some (pI d), some (pI 0), some (pI a), some (pI n)] [] s := by
  intro m
  induction m with
  | zero =>
    intro a d n s hw hu h0 h1 hd0 hd1 hn hm hK
    refine wx_J [39] 9 tX2_day_ok rfl (fun J hR hJ => ?_)
    have hK : K [pI d] (lTell2 s 0 (wI ((s.2.2 0).1 4 - b))) := hK
    repeat' (first | (refine And.intro ?_ ?_) | (intro hq; first | (exact absurd hq (by omega)) | skip))
    all_goals first | omega | exact hR _ _ hK | assumption
  | succ m ih =>
    intro a d n s hw hu h0 h1 hd0 hd1 hn hm hK
    refine wx_J [39] 9 tX2_day_ok rfl (fun J hR hJ => ?_)
    rw [dyL] at hK
    have hr := lActR_b s a
    by_cases c : len ≤ a
    · rw [if_pos c] at hK
      have hK : K [pI d] (lTell2 s 0 (wI ((s.2.2 0).1 4 - b))) := hK
      repeat' (first | (refine And.intro ?_ ?_) | (intro hq; first | (exact absurd hq (by omega)) | skip))
      all_goals first | omega | exact hR _ _ hK | assumption
    · rw [if_neg c] at hK
      by_cases c1 : lActR s a < 0
      · rw [if_pos c1] at hK
        have hK : K [pI d] (lTell2 s 1 (wI ((s.2.2 0).1 4 - b))) := hK
        repeat' (first | (refine And.intro ?_ ?_) | (intro hq; first | (exact absurd hq (by omega)) | skip))
        all_goals first | omega | exact hR _ _ hK | assumption
      · rw [if_neg c1] at hK
        by_cases c2 : d = 0
        · rw [if_pos c2] at hK
          have hw1 : wok ((lRem s).2.2 0) := by rw [lRem_0]; exact hw
          have hj := afJ_b (lAct (lRem s) a) a
          have hs := slI_b (afJ (lAct (lRem s) a) a) hj
          have g := ih _ (d + 1) (n + 1) _ (wok_Act hw1) (uok_Rem hu) (by omega) (by omega) (by omega) (by omega) (by omega) (by omega) hK
          obtain ⟨⟨u1, u2⟩, u3, u4⟩ := hu
          repeat' (first | (refine And.intro ?_ ?_) | (intro hq; first | (exact absurd hq (by omega)) | skip))
          all_goals first | omega | exact hJ _ _ _ _ g | exact hj | exact (hw _ (by assumption)).1 | exact (hw _ (by assumption)).2 | exact (hw1 _ (by assumption)).1 | exact (hw1 _ (by assumption)).2
        · rw [if_neg c2] at hK
          have hj := afJ_b (lAct s a) a
          have hs := slI_b (afJ (lAct s a) a) hj
          have g := ih _ (d + 1) (n + 1) _ (wok_Act hw) hu (by omega) (by omega) (by omega) (by omega) (by omega) (by omega) hK
          repeat' (first | (refine And.intro ?_ ?_) | (intro hq; first | (exact absurd hq (by omega)) | skip))
          all_goals first | omega | exact hJ _ _ _ _ g | exact hj | exact (hw _ (by assumption)).1 | exact (hw _ (by assumption)).2
def sX2_day : LSt → KL → Prop := fun s K => lok s ∧ K [pI (fDay s).1] (fDay s).2
theorem mX2_day_ok : mOk encL bdL mX2_day (atR 0 (a0 sX2_day)) := by
  refine mOVa0 kX2_day (fun _ => rfl) (fun s K h hb => wx_J [39] 9 tX2_day_ok rfl (fun J hR hJ => ?_))
  obtain ⟨⟨hu, h3, h4, hw⟩, hK⟩ := h
  have hz0 := hw 0 (by decide) 0 (by decide)
  have hz : 0 ≤ wZ ((setS s 4 0).2.2 0) 0 ∧ wZ ((setS s 4 0).2.2 0) 0 ≤ 4 := hz0
  have hw0 : wok ((setS s 4 0).2.2 0) := hw 0 (by decide)
  have hu0 : uok (setS s 4 0) := hu
  have hb1 : bdL (setS s 4 0) := bdL_S hb ⟨by omega, by omega⟩
  unfold fDay at hK
  refine fun _ => ?_
  generalize setS s 4 0 = u at hK hz hw0 hu0 hb1 ⊢
  generalize s.1 4 = len at h4 hK ⊢
  have he := dmL_b u len h4.2 80 0 (by omega)
  have he : -1 ≤ lDm u len ∧ lDm u len ≤ 91 := he
  unfold fDy1 at hK
  have x4 : xB ((u.2.2 0).1 4) := (hb1.2.2 0).1 4
  by_cases c1 : 0 ≤ lDm u len
  · rw [if_pos c1] at hK
    repeat' (first | (refine And.intro ?_ ?_) | (intro hq; first | (exact absurd hq (by omega)) | skip))
    all_goals first | omega | exact hR _ _ hK
  · rw [if_neg c1] at hK
    have g1 := X2_day_l (Pt := fun _ => False) len ((u.2.2 0).1 4) h4 x4 80 0 0 0 u hw0 hu0 (by omega) (by omega) (by omega) (by omega) (by omega) (by omega) hK
    repeat' (first | (refine And.intro ?_ ?_) | (intro hq; first | (exact absurd hq (by omega)) | skip))
    all_goals first | omega | exact hJ _ _ _ _ g1
end
-- 981.iv
section
/-! ===== a desk of the model: what holds while inputs come ===== -/
theorem wI_id {z : Int} (h : xB z) : wI z = z := by
  show (iI z).toInt = z
  exact iI_toInt h
theorem bqF {a b : Nat} (h : a ≠ b) : Nat.beq a b = false := by
  cases e : Nat.beq a b with
  | false => rfl
  | true => exact absurd (Nat.eq_of_beq_eq_true e) h
theorem mS_ne {s : MS} {k j : Nat} {v : Int} (h : j ≠ k) : (mS s k v).1 j = s.1 j := by
  show (bif Nat.beq j k then v else s.1 j) = _
  rw [bqF h]; rfl
theorem mA_ne {s : MS} {k j : Nat} {g : Nat → Int} (h : j ≠ k) : (mA s k g).2 j = s.2 j := by
  show (bif Nat.beq j k then g else s.2 j) = _
  rw [bqF h]; rfl
/-- cells of the desks alone -/
def cF (s s' : MS) : Prop := s'.1 = s.1 ∧ ∀ a, a ≠ 3 → s'.2 a = s.2 a
theorem cF.same {s : MS} : cF s s := ⟨rfl, fun _ _ => rfl⟩
theorem cF.trans {s t u : MS} (h : cF s t) (g : cF t u) : cF s u := ⟨g.1.trans h.1, fun a ha => (g.2 a ha).trans (h.2 a ha)⟩
theorem cF_A {s : MS} {g : Nat → Int} : cF s (mA s 3 g) := ⟨rfl, fun _ h => mA_ne h⟩
theorem cF_P {s : MS} {x v : Int} : cF s (mP s x v) := cF_A
theorem cF_I {s : MS} {x v : Int} : cF s (mInc s x v) := cF_A
/-- what a desk's work leaves alone besides the cells -/
def sF (s s' : MS) : Prop := (∀ k, k ≠ 10 → k ≠ 11 → k ≠ 12 → s'.1 k = s.1 k) ∧ ∀ a, a ≠ 3 → a ≠ 4 → s'.2 a = s.2 a
theorem sF.same {s : MS} : sF s s := ⟨fun _ _ _ _ => rfl, fun _ _ _ => rfl⟩
theorem sF.trans {s t u : MS} (h : sF s t) (g : sF t u) : sF s u := ⟨fun k a b c => (g.1 k a b c).trans (h.1 k a b c), fun a p q => (g.2 a p q).trans (h.2 a p q)⟩
theorem cF.s {s s' : MS} (h : cF s s') : sF s s' := ⟨fun k _ _ _ => by rw [h.1], fun a p _ => h.2 a p⟩
theorem sF_S {s : MS} {k : Nat} {v : Int} (h : k = 10 ∨ k = 11 ∨ k = 12) : sF s (mS s k v) := ⟨fun j a b c => mS_ne (by omega), fun _ _ _ => rfl⟩
theorem sF_F {s : MS} {k : Nat} {v : Int} : sF s (mF s k v) := ⟨fun _ _ _ _ => rfl, fun _ _ h => mA_ne h⟩
/-- the cells of a desk that sending leaves alone -/
def kC (c : Int) : Prop := c < 7 ∨ (8 ≤ c ∧ c < 32) ∨ (36 ≤ c ∧ c < 60) ∨ (84 ≤ c ∧ c < 364) ∨ 1844 ≤ c ∨ ∃ j q : Int, 0 ≤ j ∧ j < 160 ∧ 0 ≤ q ∧ q ≤ 5 ∧ c = 364 + 7 * j + q
def okC (d : Int) (s : MS) : Prop := 0 ≤ mg s (d * 2804 + 1484) ∧ mg s (d * 2804 + 1484) ≤ 5
def dF (d : Int) (s s' : MS) : Prop := (∀ c, 0 ≤ d * 2804 + c → kC c → mg s' (d * 2804 + c) = mg s (d * 2804 + c)) ∧ (okC d s → okC d s') ∧ sF s s' ∧ s'.2 4 = s.2 4 ∧ mg s (d * 2804 + 7) ≤ mg s' (d * 2804 + 7)
theorem dF.same {d : Int} {s : MS} : dF d s s := ⟨fun _ _ _ => rfl, fun h => h, sF.same, rfl, Int.le_refl _⟩
theorem dF.trans {d : Int} {s t u : MS} (h : dF d s t) (g : dF d t u) : dF d s u := ⟨fun c h0 hc => (g.1 c h0 hc).trans (h.1 c h0 hc), fun q => g.2.1 (h.2.1 q), h.2.2.1.trans g.2.2.1, g.2.2.2.1.trans h.2.2.2.1, Int.le_trans h.2.2.2.2 g.2.2.2.2⟩
theorem dF.S {d : Int} {s s' : MS} {k : Nat} {v : Int} (h : dF d s s') (hk : k = 10 ∨ k = 11 ∨ k = 12) : dF d s (mS s' k v) := ⟨h.1, h.2.1, h.2.2.1.trans (sF_S hk), h.2.2.2⟩
theorem sdL_fr (k d i : Int) (hk : 0 ≤ k) : ∀ (m : Nat) (w : Int) (s : MS) (x : Int), 0 ≤ w → 0 ≤ x → (x < k + 1 + w ∨ k + 1 + w + m ≤ x) → mg (sdL k d i m w s) x = mg s x
  | 0, _, _, _, _, _, _ => rfl
  | m + 1, w, s, x, hw, hx, h => by
    rw [sdL, sdL_fr k d i hk m (w + 1) _ x (by omega) hx (by omega), mg_ne (by omega) hx (by omega)]
theorem sdL_1 (k d i : Int) : ∀ (m : Nat) (w : Int) (s : MS), cF s (sdL k d i m w s)
  | 0, _, _ => cF.same
  | m + 1, w, s => by
    rw [sdL]
    exact cF_P.trans (sdL_1 k d i m (w + 1) _)
theorem tmod60 {a : Int} (h : 0 ≤ a) : 0 ≤ Int.tmod a 60 ∧ Int.tmod a 60 < 60 := ⟨Int.tmod_nonneg _ h, Int.tmod_lt_of_pos a (by decide)⟩
theorem tmod40 {a : Int} (h : 0 ≤ a) : 0 ≤ Int.tmod a 40 ∧ Int.tmod a 40 < 40 := ⟨Int.tmod_nonneg _ h, Int.tmod_lt_of_pos a (by decide)⟩
theorem mInc_ne {s : MS} {a v x : Int} (ha : 0 ≤ a) (hx : 0 ≤ x) (h : a ≠ x) : mg (mInc s a v) x = mg s x := mg_ne ha hx h
theorem mInc_eq {s : MS} {a v : Int} : mg (mInc s a v) a = wI (mg s a + v) := mg_eq
/-- a message sent: the row it tells, all but its count and the place of its kind -/
theorem send4_fr {s : MS} {d kd i x : Int} (hd : dOk d) (hm : 0 ≤ mg s (d * 2804 + 7)) (hk : 0 ≤ kd ∧ kd ≤ 3) (h0 : 0 ≤ x) (h1 : x < d * 2804 + 1484 ∨ d * 2804 + 1844 ≤ x) (h7 : x ≠ d * 2804 + 7) (h32 : x ≠ d * 2804 + (32 + kd)) : mg (mSend4 s d kd i) x = mg s x := by
  have ht := tmod60 hm
  have hd0 : 0 ≤ d := hd.1
  unfold mSend4
  rw [mInc_ne (by omega) (by omega) (by omega), mInc_ne (by omega) (by omega) (by omega), sdL_fr _ d i (by omega) 5 0 _ x (by decide) (by omega) (by omega), mg_ne (by omega) (by omega) (by omega)]
theorem send4_7 {s : MS} {d kd i : Int} (hd : dOk d) (hm : 0 ≤ mg s (d * 2804 + 7)) (hk : 0 ≤ kd ∧ kd ≤ 3) : mg (mSend4 s d kd i) (d * 2804 + 7) = wI (mg s (d * 2804 + 7) + 1) := by
  have ht := tmod60 hm
  have hd0 : 0 ≤ d := hd.1
  unfold mSend4
  rw [mInc_ne (by omega) (by omega) (by omega), mInc_eq, sdL_fr _ d i (by omega) 5 0 _ _ (by decide) (by omega) (by omega), mg_ne (by omega) (by omega) (by omega)]
theorem send4_c {s : MS} {d kd i : Int} (hd : dOk d) (hm : 0 ≤ mg s (d * 2804 + 7)) (hk : 0 ≤ kd ∧ kd ≤ 3) : mg (mSend4 s d kd i) (d * 2804 + 1484) = mg s (d * 2804 + 1484) ∨ mg (mSend4 s d kd i) (d * 2804 + 1484) = kd := by
  have ht := tmod60 hm
  have hd0 : 0 ≤ d := hd.1
  unfold mSend4
  rw [mInc_ne (by omega) (by omega) (by omega), mInc_ne (by omega) (by omega) (by omega), sdL_fr _ d i (by omega) 5 0 _ _ (by decide) (by omega) (by omega)]
  by_cases e : Int.tmod (mg s (d * 2804 + 7)) 60 = 0
  · rw [e, show d * 2804 + 1484 + 6 * 0 = d * 2804 + 1484 by omega]
    exact Or.inr mg_eq
  · exact Or.inl (mg_ne (by omega) (by omega) (by omega))
abbrev rw_ (d i : Int) : Int := d * 2804 + 364 + 7 * i
theorem send4_key {s : MS} {d kd i : Int} (hd : dOk d) (hm : 0 ≤ mg s (d * 2804 + 7)) (hi : 0 ≤ i ∧ i ≤ 160) (hk : 0 ≤ kd ∧ kd ≤ 3) (hq : 0 ≤ mg s (rw_ d i + 0) ∧ mg s (rw_ d i + 0) ≤ 5) : 0 ≤ mg (mSend4 s d kd i) (rw_ d i + 0) ∧ mg (mSend4 s d kd i) (rw_ d i + 0) ≤ 5 := by
  have hd0 : 0 ≤ d := hd.1
  have r1 : rw_ d i = d * 2804 + 364 + 7 * i := rfl
  by_cases h : i = 160
  · subst h
    have e : rw_ d 160 + 0 = d * 2804 + 1484 := by omega
    rw [e] at hq ⊢
    rcases send4_c (i := 160) hd hm hk with c | c <;> rw [c]
    · exact hq
    · omega
  · rw [send4_fr hd hm hk (by omega) (by omega) (by omega) (by omega)]
    exact hq
theorem send_ok {s : MS} {d kd i : Int} (hd : dOk d) (hm : 0 ≤ mg s (d * 2804 + 7)) (hi : 0 ≤ i ∧ i ≤ 160) (hk : 0 ≤ kd ∧ kd ≤ 3) (hq : 0 ≤ mg s (rw_ d i + 0) ∧ mg s (rw_ d i + 0) ≤ 5) (hm2 : mg s (d * 2804 + 7) ≤ 2000000) : dF d s (mSend s d kd i) ∧ mg (mSend s d kd i) (d * 2804 + 7) = wI (mg s (d * 2804 + 7) + 1) ∧ mI (d * 2804 + (60 + 4 * mg (mSend4 s d kd i) ((d * 2804 + 364 + 7 * i) + 0) + kd)) := by
  have hd0 : 0 ≤ d := hd.1
  have hd1 : d ≤ 10 := hd.2
  have e0 : 0 ≤ mg (mSend4 s d kd i) ((d * 2804 + 364 + 7 * i) + 0) ∧ mg (mSend4 s d kd i) ((d * 2804 + 364 + 7 * i) + 0) ≤ 5 := send4_key hd hm hi hk hq
  have e1 : cF s (mSend s d kd i) := by
    unfold mSend mSend4
    exact ((((cF_P.trans (sdL_1 _ d i 5 0 _)).trans cF_I).trans cF_I).trans cF_I).trans cF_P
  have e7 : mg (mSend s d kd i) (d * 2804 + 7) = wI (mg s (d * 2804 + 7) + 1) := by
    unfold mSend
    rw [mg_ne (by omega) (by omega) (by omega), mInc_ne (by omega) (by omega) (by omega), send4_7 hd hm hk]
  refine ⟨⟨fun c h0 hc => ?_, fun q => ?_, e1.s, e1.2 4 (by decide), by rw [e7, wI_id ⟨by omega, by omega⟩]; omega⟩, e7, ?_⟩
  · have hc2 : (c < 1484 ∨ 1844 ≤ c) ∧ c ≠ 7 ∧ (c < 32 ∨ 36 ≤ c) ∧ (c < 60 ∨ 84 ≤ c) ∧ c ≠ 364 + 7 * i + 6 := by
      rcases hc with h | h | h | h | h | ⟨j, q, h1, h2, h3, h4, rfl⟩ <;> omega
    unfold mSend
    rw [mg_ne (by omega) (by omega) (by omega), mInc_ne (by omega) (by omega) (by omega)]
    exact send4_fr hd hm hk (by omega) (by omega) (by omega) (by omega)
  · have e : mg (mSend s d kd i) (d * 2804 + 1484) = mg (mSend4 s d kd i) (d * 2804 + 1484) := by
      unfold mSend
      rw [mg_ne (by omega) (by omega) (by omega), mInc_ne (by omega) (by omega) (by omega)]
    have q1 : 0 ≤ mg s (d * 2804 + 1484) ∧ mg s (d * 2804 + 1484) ≤ 5 := q
    show 0 ≤ mg (mSend s d kd i) (d * 2804 + 1484) ∧ mg (mSend s d kd i) (d * 2804 + 1484) ≤ 5
    rw [e]
    rcases send4_c (i := i) hd hm hk with c | c <;> rw [c]
    · exact q1
    · omega
  · constructor <;> omega
/-- the desk's numbers: sessions to n, what is sent and closed to b, keys, first times -/
def dV (d n b : Int) (s : MS) : Prop := (0 ≤ mg s (d * 2804 + 5) ∧ mg s (d * 2804 + 5) ≤ n) ∧ (0 ≤ mg s (d * 2804 + 7) ∧ mg s (d * 2804 + 7) ≤ b) ∧ (∀ k, 0 ≤ k → k ≤ 5 → 0 ≤ mg s (d * 2804 + (36 + k)) ∧ mg s (d * 2804 + (36 + k)) ≤ b) ∧ (∀ i, 0 ≤ i → i < mg s (d * 2804 + 5) → 0 ≤ mg s (rw_ d i + 0) ∧ mg s (rw_ d i + 0) ≤ 5) ∧ (n ≤ 160 → ∀ i, 0 ≤ i → i < mg s (d * 2804 + 5) → mg s (rw_ d i + 1) ≤ mg s (rw_ d i + 2))
theorem row_at {d i q : Int} : rw_ d i + q = d * 2804 + (364 + 7 * i + q) := by
  show d * 2804 + 364 + 7 * i + q = _
  omega
theorem dF.row {d : Int} {s s' : MS} (h : dF d s s') (hd : dOk d) {i q : Int} (hi : 0 ≤ i ∧ i < 160) (hq : 0 ≤ q ∧ q ≤ 5) : mg s' (rw_ d i + q) = mg s (rw_ d i + q) := by
  have hd0 : 0 ≤ d := hd.1
  rw [row_at]
  exact h.1 _ (by omega) (Or.inr (Or.inr (Or.inr (Or.inr (Or.inr ⟨i, q, hi.1, hi.2, hq.1, hq.2, Eq.refl _⟩)))))
theorem dF.five {d : Int} {s s' : MS} (h : dF d s s') (hd : dOk d) : mg s' (d * 2804 + 5) = mg s (d * 2804 + 5) := h.1 5 (by have := hd.1; omega) (Or.inl (by decide))
theorem dV.go {d n b b' : Int} {s s' : MS} (h : dV d n b s) (hd : dOk d) (hn : n ≤ 161) (hF : dF d s s') (hb : b ≤ b') (h7 : 0 ≤ mg s' (d * 2804 + 7) ∧ mg s' (d * 2804 + 7) ≤ b') : dV d n b' s' := by
  have hd0 : 0 ≤ d := hd.1
  have h5 := h.1
  refine ⟨by rw [hF.five hd]; exact h.1, h7, fun k h0 h1 => ?_, fun i h0 h1 => ?_, fun hn2 i h0 h1 => ?_⟩
  · rw [hF.1 _ (by omega) (Or.inr (Or.inr (Or.inl ⟨by omega, by omega⟩)))]
    have := h.2.2.1 k h0 h1
    omega
  · rw [hF.five hd] at h1
    by_cases e : i = 160
    · subst e
      have e : rw_ d 160 + 0 = d * 2804 + 1484 := by
        show d * 2804 + 364 + 7 * 160 + 0 = _
        omega
      have q := h.2.2.2.1 160 h0 h1
      rw [e] at q ⊢
      exact hF.2.1 q
    · rw [hF.row hd ⟨h0, by omega⟩ ⟨by decide, by decide⟩]
      exact h.2.2.2.1 i h0 h1
  · rw [hF.five hd] at h1
    rw [hF.row hd ⟨h0, by omega⟩ ⟨by decide, by decide⟩, hF.row hd ⟨h0, by omega⟩ ⟨by decide, by decide⟩]
    exact h.2.2.2.2 hn2 i h0 h1
theorem dV.send {d n b kd i : Int} {s : MS} (h : dV d n b s) (hd : dOk d) (hn : n ≤ 161) (hb : b ≤ 1000000) (hk : 0 ≤ kd ∧ kd ≤ 3) (hi : 0 ≤ i ∧ i < mg s (d * 2804 + 5)) : dV d n (b + 1) (mSend s d kd i) ∧ dF d s (mSend s d kd i) ∧ mI (d * 2804 + (60 + 4 * mg (mSend4 s d kd i) ((d * 2804 + 364 + 7 * i) + 0) + kd)) := by
  have h5 := h.1
  have h7 := h.2.1
  obtain ⟨g1, g2, g3⟩ := send_ok hd h7.1 ⟨hi.1, by omega⟩ hk (h.2.2.2.1 i hi.1 hi.2) (by omega)
  exact ⟨h.go hd hn g1 (by omega) (by rw [g2, wI_id ⟨by omega, by omega⟩]; omega), g1, g3⟩
theorem dV.more {d n b b' : Int} {s : MS} (h : dV d n b s) (hb : b ≤ b') : dV d n b' s :=
  ⟨h.1, ⟨h.2.1.1, by have := h.2.1.2; omega⟩, fun k h0 h1 => ⟨(h.2.2.1 k h0 h1).1, by have := (h.2.2.1 k h0 h1).2; omega⟩, h.2.2.2⟩
theorem dV.wide {d n n' b : Int} {s : MS} (h : dV d n b s) (hn : n ≤ n') (h160 : n ≤ 160) : dV d n' b s :=
  ⟨⟨h.1.1, by have := h.1.2; omega⟩, h.2.1, h.2.2.1, h.2.2.2.1, fun _ => h.2.2.2.2 h160⟩
theorem dV.take {d n b i : Int} {s : MS} (h : dV d n b s) (hd : dOk d) (hn : n ≤ 161) (hb : b ≤ 1000000) (hi : 0 ≤ i ∧ i < mg s (d * 2804 + 5)) : dV d n (b + 1) (mTake s d i) ∧ dF d s (mTake s d i) ∧ mTakeP s d i := by
  obtain ⟨g1, g2, g3⟩ := h.send (kd := 3) hd hn hb ⟨by decide, by decide⟩ hi
  unfold mTake
  by_cases hc : 0 < mg s ((d * 2804 + 364 + 7 * i) + 6)
  · rw [if_pos hc]
    exact ⟨g1, g2, fun _ => g3⟩
  · rw [if_neg hc]
    exact ⟨h.more (by omega), dF.same, fun q => absurd q hc⟩
end
-- 982.iw
section
/-! ===== what gets ripe, what closes: the loops end ===== -/
theorem frL_sp (s : MS) (d wa : Int) : ∀ (n : Nat) (i b : Int), frL s d wa n i b = b ∨ (i ≤ frL s d wa n i b ∧ frL s d wa n i b < i + n ∧ mFr s d wa (frL s d wa n i b))
  | 0, i, b => Or.inl rfl
  | n + 1, i, b => by
    rw [frL]
    by_cases hc : mFr s d wa i ∧ (b < 0 ∨ mg s ((d * 2804 + 364 + 7 * i) + 2) < mg s ((d * 2804 + 364 + 7 * b) + 2))
    · rw [if_pos hc]
      rcases frL_sp s d wa n (i + 1) i with h | h
      · rw [h]; exact Or.inr ⟨Int.le_refl _, by omega, hc.1⟩
      · exact Or.inr ⟨by omega, by omega, h.2.2⟩
    · rw [if_neg hc]
      rcases frL_sp s d wa n (i + 1) b with h | h
      · exact Or.inl h
      · exact Or.inr ⟨by omega, by omega, h.2.2⟩
theorem fcL_sp (s : MS) (d : Int) : ∀ (n : Nat) (i b : Int), fcL s d n i b = b ∨ (i ≤ fcL s d n i b ∧ fcL s d n i b < i + n)
  | 0, i, b => Or.inl rfl
  | n + 1, i, b => by
    rw [fcL]
    by_cases hc : mOver s d i (mg s (d * 2804 + 4)) ∧ (b < 0 ∨ mg s ((d * 2804 + 364 + 7 * i) + 2) < mg s ((d * 2804 + 364 + 7 * b) + 2))
    · rw [if_pos hc]
      rcases fcL_sp s d n (i + 1) i with h | h
      · rw [h]; exact Or.inr ⟨Int.le_refl _, by omega⟩
      · exact Or.inr ⟨by omega, by omega⟩
    · rw [if_neg hc]
      rcases fcL_sp s d n (i + 1) b with h | h
      · exact Or.inl h
      · exact Or.inr ⟨by omega, by omega⟩
theorem firstR_sp {s : MS} {d wa : Int} (h5 : 0 ≤ mg s (d * 2804 + 5)) : mFirstR s d wa < 0 ∨ (0 ≤ mFirstR s d wa ∧ mFirstR s d wa < mg s (d * 2804 + 5) ∧ mFr s d wa (mFirstR s d wa)) := by
  unfold mFirstR
  rcases frL_sp s d wa (mg s (d * 2804 + 5)).toNat 0 (-1) with h | h
  · rw [h]; exact Or.inl (by decide)
  · exact Or.inr ⟨h.1, by omega, h.2.2⟩
theorem firstC_sp {s : MS} {d : Int} (h5 : 0 ≤ mg s (d * 2804 + 5)) : mFirstC s d < 0 ∨ (0 ≤ mFirstC s d ∧ mFirstC s d < mg s (d * 2804 + 5)) := by
  unfold mFirstC
  rcases fcL_sp s d (mg s (d * 2804 + 5)).toNat 0 (-1) with h | h
  · rw [h]; exact Or.inl (by decide)
  · exact Or.inr ⟨h.1, by omega⟩
/-- how many are not done -/
def nd (s : MS) (d : Int) : Nat → Nat
  | 0 => 0
  | k + 1 => nd s d k + (if mDone s d (k : Int) then 0 else 1)
theorem nd_k (s : MS) (d : Int) : ∀ k, nd s d k ≤ k
  | 0 => Nat.le_refl _
  | k + 1 => by
    rw [nd]
    have := nd_k s d k
    split <;> omega
theorem nd_le {s s' : MS} {d : Int} : ∀ k, (∀ j : Nat, j < k → mDone s d (j : Int) → mDone s' d (j : Int)) → nd s' d k ≤ nd s d k
  | 0, _ => Nat.le_refl _
  | k + 1, h => by
    rw [nd, nd]
    have h1 := nd_le k (fun j hj => h j (by omega))
    by_cases hc : mDone s d (k : Int)
    · rw [if_pos hc, if_pos (h k (by omega) hc)]; omega
    · rw [if_neg hc]
      split <;> omega
theorem nd_lt {s s' : MS} {d : Int} : ∀ (k i : Nat), i < k → ¬ mDone s d (i : Int) → mDone s' d (i : Int) → (∀ j : Nat, j < k → mDone s d (j : Int) → mDone s' d (j : Int)) → nd s' d k < nd s d k
  | 0, _, hi, _, _, _ => absurd hi (Nat.not_lt_zero _)
  | k + 1, i, hi, h0, h1, h => by
    rw [nd, nd]
    by_cases hik : i = k
    · subst hik
      rw [if_neg h0, if_pos h1]
      have := nd_le (d := d) i (fun j hj => h j (by omega))
      omega
    · have h2 := nd_lt (d := d) k i (by omega) h0 h1 (fun j hj => h j (by omega))
      by_cases hc : mDone s d (k : Int)
      · rw [if_pos hc, if_pos (h k (by omega) hc)]; omega
      · rw [if_neg hc]
        split <;> omega
theorem rr_ok {d wa n : Int} {K : MS → Prop} (hd : dOk d) (hn : n ≤ 160) : ∀ (m : Nat) (b : Int) (s : MS), dV d n b s → b + 2 * m ≤ 1000000 → nd s d (mg s (d * 2804 + 5)).toNat ≤ m → (∀ s', dF d s s' → dV d n (b + 2 * m) s' → K s') → rrP d wa K m (mFirstR s d wa) s
  | 0, b, s, hV, hb, hc, k => by
    refine ⟨?_, k s dF.same (hV.more (by omega))⟩
    rcases firstR_sp (wa := wa) hV.1.1 with h | h
    · exact h
    · have := nd_lt (s := s) (s' := mS s 10 (mg s ((d * 2804 + 364 + 7 * mFirstR s d wa) + 2) + 1)) (d := d) (mg s (d * 2804 + 5)).toNat (mFirstR s d wa).toNat (by omega) (by rw [show (((mFirstR s d wa).toNat : Nat) : Int) = mFirstR s d wa by omega]; exact h.2.2.2.2) (by
        rw [show (((mFirstR s d wa).toNat : Nat) : Int) = mFirstR s d wa by omega]
        exact Or.inl (show mg s _ < mg s _ + 1 by omega)) (fun j hj hD => by
        have h3 := h.2.2.2.2
        have e1 : (mS s 10 (mg s ((d * 2804 + 364 + 7 * mFirstR s d wa) + 2) + 1)).1 10 = mg s ((d * 2804 + 364 + 7 * mFirstR s d wa) + 2) + 1 := rfl
        refine Or.inl ?_
        rw [e1]
        show mg s _ < mg s _ + 1
        rcases hD with hD | hD
        · have := not_or.mp h3
          omega
        · have := not_or.mp h3
          omega)
      omega
  | m + 1, b, s, hV, hb, hc, k => by
    refine ⟨fun _ => k s dF.same (hV.more (by omega)), fun h0 => ?_⟩
    rcases firstR_sp (wa := wa) hV.1.1 with h | h
    · exact absurd h (by omega)
    generalize mFirstR s d wa = i at h h0
    obtain ⟨-, hi, hfr⟩ := h
    obtain ⟨t1, t2, t3⟩ := hV.take hd (by omega) (by omega) ⟨h0, hi⟩
    obtain ⟨u1, u2, u3⟩ := t1.send (kd := 1) hd (by omega) (by omega) ⟨by decide, by decide⟩ ⟨h0, by rw [t2.five hd]; exact hi⟩
    have F : dF d s (mRi1 s d i) := ((t2.trans u2).S (Or.inl rfl)).S (Or.inr (Or.inl rfl))
    have V : dV d n (b + 1 + 1) (mRi1 s d i) := u1
    have hn5 := hV.1
    refine ⟨⟨t3, u3, by rw [F.five hd]; omega⟩, ?_⟩
    refine rr_ok hd hn m (b + 1 + 1) (mRi1 s d i) V (by omega) ?_ (fun s' hF hV' => k s' (F.trans hF) (hV'.more (by omega)))
    rw [F.five hd]
    have e10 : (mRi1 s d i).1 10 = mg s (rw_ d i + 2) := (u2.row hd (q := 2) ⟨h0, by omega⟩ ⟨by decide, by decide⟩).trans (t2.row hd (q := 2) ⟨h0, by omega⟩ ⟨by decide, by decide⟩)
    have e11 : (mRi1 s d i).1 11 = mg s (rw_ d i + 0) := (u2.row hd (q := 0) ⟨h0, by omega⟩ ⟨by decide, by decide⟩).trans (t2.row hd (q := 0) ⟨h0, by omega⟩ ⟨by decide, by decide⟩)
    have hnd : ¬ (mg s (rw_ d i + 2) < s.1 10) ∧ ¬ (mg s (rw_ d i + 2) = s.1 10 ∧ mg s (rw_ d i + 0) ≤ s.1 11) := not_or.mp hfr.2.2
    have key : ∀ j : Nat, j < (mg s (d * 2804 + 5)).toNat → (mDone s d (j : Int) ∨ (j : Int) = i) → mDone (mRi1 s d i) d (j : Int) := by
      intro j hj hD
      have a2 := F.row hd (i := (j : Int)) (q := 2) ⟨by omega, by omega⟩ ⟨by decide, by decide⟩
      have a0 := F.row hd (i := (j : Int)) (q := 0) ⟨by omega, by omega⟩ ⟨by decide, by decide⟩
      show mg (mRi1 s d i) (rw_ d j + 2) < (mRi1 s d i).1 10 ∨ (mg (mRi1 s d i) (rw_ d j + 2) = (mRi1 s d i).1 10 ∧ mg (mRi1 s d i) (rw_ d j + 0) ≤ (mRi1 s d i).1 11)
      rw [a2, a0, e10, e11]
      rcases hD with hD | hD
      · have hD : mg s (rw_ d j + 2) < s.1 10 ∨ (mg s (rw_ d j + 2) = s.1 10 ∧ mg s (rw_ d j + 0) ≤ s.1 11) := hD
        omega
      · rw [hD]
        exact Or.inr ⟨Eq.refl _, Int.le_refl _⟩
    have := nd_lt (s := s) (s' := mRi1 s d i) (d := d) (mg s (d * 2804 + 5)).toNat i.toNat (by omega) (by rw [show ((i.toNat : Nat) : Int) = i by omega]; exact hfr.2.2) (key i.toNat (by omega) (Or.inr (by omega))) (fun j hj hD => key j hj (Or.inl hD))
    omega
end
-- 983.ix
section
/-! ===== what closes, what joins ===== -/
/-- the cells that coming inputs leave alone but where they are told -/
def hC (c : Int) : Prop := c < 5 ∨ c = 6 ∨ (8 ≤ c ∧ c < 32 ∧ c ≠ 11) ∨ 1844 ≤ c
def dH (d : Int) (s s' : MS) : Prop := (∀ c, 0 ≤ d * 2804 + c → hC c → mg s' (d * 2804 + c) = mg s (d * 2804 + c)) ∧ sF s s' ∧ s'.2 4 0 = s.2 4 0 ∧ (s.2 4 1 ≤ s.2 4 2 → s'.2 4 1 ≤ s'.2 4 2) ∧ mg s (d * 2804 + 7) ≤ mg s' (d * 2804 + 7)
theorem dH.same {d : Int} {s : MS} : dH d s s := ⟨fun _ _ _ => rfl, sF.same, rfl, fun h => h, Int.le_refl _⟩
theorem dH.trans {d : Int} {s t u : MS} (h : dH d s t) (g : dH d t u) : dH d s u := ⟨fun c h0 hc => (g.1 c h0 hc).trans (h.1 c h0 hc), h.2.1.trans g.2.1, g.2.2.1.trans h.2.2.1, fun q => g.2.2.2.1 (h.2.2.2.1 q), Int.le_trans h.2.2.2.2 g.2.2.2.2⟩
theorem dH_c {d : Int} {s s' : MS} (h : ∀ c, 0 ≤ d * 2804 + c → hC c → mg s' (d * 2804 + c) = mg s (d * 2804 + c)) (g : cF s s') (h7 : mg s' (d * 2804 + 7) = mg s (d * 2804 + 7)) : dH d s s' := ⟨h, g.s, by rw [g.2 4 (by decide)], fun q => (by rw [g.2 4 (by decide)]; exact q), Int.le_of_eq h7.symm⟩
theorem dF.hd {d : Int} {s s' : MS} (h : dF d s s') : dH d s s' := ⟨fun c h0 hc => h.1 c h0 (by
  rcases hc with h | h | h | h
  · exact Or.inl (by omega)
  · exact Or.inl (by omega)
  · exact Or.inr (Or.inl ⟨by omega, by omega⟩)
  · exact Or.inr (Or.inr (Or.inr (Or.inr (Or.inl h))))), h.2.2.1, by rw [h.2.2.2.1], fun q => (by rw [h.2.2.2.1]; exact q), h.2.2.2.2⟩
theorem clL_fr (k d i : Int) (hk : 0 ≤ k) : ∀ (m : Nat) (w : Int) (s : MS) (x : Int), 0 ≤ w → 0 ≤ x → (x < k + w ∨ k + w + m ≤ x) → mg (clL k d i m w s) x = mg s x
  | 0, _, _, _, _, _, _ => rfl
  | m + 1, w, s, x, hw, hx, h => by
    rw [clL, clL_fr k d i hk m (w + 1) _ x (by omega) hx (by omega), mg_ne (by omega) hx (by omega)]
theorem clL_1 (k d i : Int) : ∀ (m : Nat) (w : Int) (s : MS), cF s (clL k d i m w s)
  | 0, _, _ => cF.same
  | m + 1, w, s => by
    rw [clL]
    exact cF_P.trans (clL_1 k d i m (w + 1) _)
theorem sum6_nn {f : Int → Int} {b : Int} (hb : b ≤ 1000001) (h : ∀ k, 0 ≤ k → k ≤ 5 → 0 ≤ f k ∧ f k ≤ b) : 0 ≤ sumI f 6 0 0 := by
  have h0 := h 0 (by decide) (by decide)
  have h1 := h 1 (by decide) (by decide)
  have h2 := h 2 (by decide) (by decide)
  have h3 := h 3 (by decide) (by decide)
  have h4 := h 4 (by decide) (by decide)
  have h5 := h 5 (by decide) (by decide)
  have e : sumI f 6 0 0 = wI (wI (wI (wI (wI (wI (0 + f 0) + f 1) + f 2) + f 3) + f 4) + f 5) := rfl
  have a0 : wI (0 + f 0) = f 0 := by rw [wI_id ⟨by omega, by omega⟩]; omega
  have a1 : wI (f 0 + f 1) = f 0 + f 1 := wI_id ⟨by omega, by omega⟩
  have a2 : wI (f 0 + f 1 + f 2) = f 0 + f 1 + f 2 := wI_id ⟨by omega, by omega⟩
  have a3 : wI (f 0 + f 1 + f 2 + f 3) = f 0 + f 1 + f 2 + f 3 := wI_id ⟨by omega, by omega⟩
  have a4 : wI (f 0 + f 1 + f 2 + f 3 + f 4) = f 0 + f 1 + f 2 + f 3 + f 4 := wI_id ⟨by omega, by omega⟩
  have a5 : wI (f 0 + f 1 + f 2 + f 3 + f 4 + f 5) = f 0 + f 1 + f 2 + f 3 + f 4 + f 5 := wI_id ⟨by omega, by omega⟩
  rw [e, a0, a1, a2, a3, a4, a5]
  omega
theorem out_fr {s : MS} {d i x : Int} (hd : dOk d) (hi : 0 ≤ i) (hx : 0 ≤ x) (hz : mg (mOut1 s d) (d * 2804 + 5) ≤ 160) (h : x < d * 2804 + 364 ∨ d * 2804 + 1484 ≤ x) : mg (mOut s d i) x = mg (mOut1 s d) x := by
  have hd0 : 0 ≤ d := hd.1
  show (if _ then _ else _) = _
  rw [if_neg (fun q => by omega)]
  rfl
theorem out1_5 {s : MS} {d : Int} : mg (mOut1 s d) (d * 2804 + 5) = wI (mg s (d * 2804 + 5) + -1) := mInc_eq
theorem out1_ne {s : MS} {d x : Int} (hd : dOk d) (hx : 0 ≤ x) (h : x ≠ d * 2804 + 5) : mg (mOut1 s d) x = mg s x := mInc_ne (by have := hd.1; omega) hx (fun e => h e.symm)
theorem out_row {s : MS} {d i j : Int} (hd : dOk d) (hi : 0 ≤ i) (hj : 0 ≤ j) (h : j < mg (mOut1 s d) (d * 2804 + 5)) : ∃ j', 0 ≤ j' ∧ j' < mg (mOut1 s d) (d * 2804 + 5) + 1 ∧ ∀ q, 0 ≤ q → q ≤ 6 → mg (mOut s d i) (rw_ d j + q) = mg s (rw_ d j' + q) := by
  have hd0 : 0 ≤ d := hd.1
  have r1 : rw_ d j = d * 2804 + 364 + 7 * j := rfl
  have r2 : rw_ d (j + 1) = d * 2804 + 364 + 7 * (j + 1) := rfl
  by_cases hc : i ≤ j
  · refine ⟨j + 1, by omega, by omega, fun q q0 q1 => ?_⟩
    show (if _ then (mOut1 s d).2 3 _ else _) = _
    rw [if_pos (by constructor <;> omega), show (rw_ d j + q).toNat + 7 = (rw_ d (j + 1) + q).toNat by omega]
    exact out1_ne hd (by omega) (by omega)
  · refine ⟨j, hj, by omega, fun q q0 q1 => ?_⟩
    show (if _ then _ else _) = _
    rw [if_neg (fun q => by omega)]
    exact out1_ne hd (by omega) (by omega)
theorem out_c {s : MS} {d i : Int} : cF s (mOut s d i) := by
  unfold mOut mOut1
  exact cF_I.trans cF_A
theorem out_hd {s : MS} {d i : Int} (hd : dOk d) (hi : 0 ≤ i) (hz : mg (mOut1 s d) (d * 2804 + 5) ≤ 160) : dH d s (mOut s d i) := by
  have hd0 : 0 ≤ d := hd.1
  refine dH_c (fun c h0 hc => ?_) out_c (by rw [out_fr hd hi (by omega) hz (by omega), out1_ne hd (by omega) (by omega)])
  have : (c < 32 ∨ 1844 ≤ c) ∧ c ≠ 5 := by rcases hc with h | h | h | h <;> omega
  rw [out_fr hd hi h0 hz (by omega), out1_ne hd h0 (by omega)]
/-- a row goes out: one session less -/
theorem dV.out {d n b i : Int} {s : MS} (h : dV d n b s) (hd : dOk d) (hn : n ≤ 161) (hi : 0 ≤ i ∧ i < mg s (d * 2804 + 5)) : dV d n b (mOut s d i) ∧ mg (mOut s d i) (d * 2804 + 5) = mg s (d * 2804 + 5) - 1 ∧ mg (mOut1 s d) (d * 2804 + 5) = mg s (d * 2804 + 5) - 1 := by
  have hd0 : 0 ≤ d := hd.1
  have h5 := h.1
  have e1 : mg (mOut1 s d) (d * 2804 + 5) = mg s (d * 2804 + 5) - 1 := by rw [out1_5, wI_id ⟨by omega, by omega⟩]; omega
  have hz : mg (mOut1 s d) (d * 2804 + 5) ≤ 160 := by omega
  have e5 : mg (mOut s d i) (d * 2804 + 5) = mg s (d * 2804 + 5) - 1 := by rw [out_fr hd hi.1 (by omega) hz (by omega)]; exact e1
  refine ⟨⟨by rw [e5]; omega, ?_, fun k k0 k1 => ?_, fun j j0 j1 => ?_, fun hn2 j j0 j1 => ?_⟩, e5, e1⟩
  · rw [out_fr hd hi.1 (by omega) hz (by omega), out1_ne hd (by omega) (by omega)]
    exact h.2.1
  · rw [out_fr hd hi.1 (by omega) hz (by omega), out1_ne hd (by omega) (by omega)]
    exact h.2.2.1 k k0 k1
  · rw [e5] at j1
    obtain ⟨j', a1, a2, a3⟩ := out_row (s := s) (i := i) (j := j) hd hi.1 j0 (by rw [e1]; exact j1)
    rw [a3 0 (by decide) (by decide)]
    exact h.2.2.2.1 j' a1 (by rw [e1] at a2; omega)
  · rw [e5] at j1
    obtain ⟨j', a1, a2, a3⟩ := out_row (s := s) (i := i) (j := j) hd hi.1 j0 (by rw [e1]; exact j1)
    rw [a3 1 (by decide) (by decide), a3 2 (by decide) (by decide)]
    exact h.2.2.2.2 hn2 j' a1 (by rw [e1] at a2; omega)
theorem cl2_ok {d n b i : Int} {s : MS} (h : dV d n b s) (hd : dOk d) (hn : n ≤ 161) (hb : b ≤ 1000000) (hi : 0 ≤ i ∧ i < mg s (d * 2804 + 5)) : dV d n (b + 1) (mCl2 s d i) ∧ dH d s (mCl2 s d i) ∧ mg (mCl2 s d i) (d * 2804 + 5) = mg s (d * 2804 + 5) := by
  have hd0 : 0 ≤ d := hd.1
  have hk := h.2.2.2.1 i hi.1 hi.2
  have fr : ∀ x, 0 ≤ x → (x < d * 2804 + 36 ∨ d * 2804 + 60 ≤ x) → mg (mCl2 s d i) x = mg s x := by
    intro x hx h
    have hk' : 0 ≤ mg s ((d * 2804 + 364 + 7 * i) + 0) ∧ mg s ((d * 2804 + 364 + 7 * i) + 0) ≤ 5 := hk
    unfold mCl2
    simp only []
    rw [mg_ne (by omega) hx (by omega), mInc_ne (by omega) hx (by omega), mInc_ne (by omega) hx (by omega), mInc_ne (by omega) hx (by omega)]
  have frk : ∀ k, 0 ≤ k → k ≤ 5 → mg (mCl2 s d i) (d * 2804 + (36 + k)) = mg s (d * 2804 + (36 + k)) ∨ mg (mCl2 s d i) (d * 2804 + (36 + k)) = wI (mg s (d * 2804 + (36 + k)) + 1) := by
    intro k k0 k1
    have hk' : 0 ≤ mg s ((d * 2804 + 364 + 7 * i) + 0) ∧ mg s ((d * 2804 + 364 + 7 * i) + 0) ≤ 5 := hk
    unfold mCl2
    simp only []
    rw [mg_ne (by omega) (by omega) (by omega), mInc_ne (by omega) (by omega) (by omega), mInc_ne (by omega) (by omega) (by omega)]
    by_cases e : mg s ((d * 2804 + 364 + 7 * i) + 0) = k
    · rw [e]
      exact Or.inr mInc_eq
    · exact Or.inl (mInc_ne (by omega) (by omega) (by omega))
  have h5 := h.1
  have cf : cF s (mCl2 s d i) := by
    unfold mCl2
    exact ((cF_I.trans cF_I).trans cF_I).trans cF_P
  refine ⟨⟨by rw [fr _ (by omega) (by omega)]; exact h.1, by rw [fr _ (by omega) (by omega)]; exact ⟨h.2.1.1, by have := h.2.1.2; omega⟩, fun k k0 k1 => ?_, fun j j0 j1 => ?_, fun hn2 j j0 j1 => ?_⟩, dH_c (fun c h0 hc => ?_) cf (fr _ (by omega) (by omega)), fr _ (by omega) (by omega)⟩
  · have := h.2.2.1 k k0 k1
    rcases frk k k0 k1 with e | e
    · rw [e]; omega
    · rw [e, wI_id ⟨by omega, by omega⟩]; omega
  · have r1 : rw_ d j = d * 2804 + 364 + 7 * j := rfl
    rw [fr _ (by omega) (by omega)] at j1
    rw [fr _ (by omega) (by omega)]
    exact h.2.2.2.1 j j0 j1
  · have r1 : rw_ d j = d * 2804 + 364 + 7 * j := rfl
    rw [fr _ (by omega) (by omega)] at j1
    rw [fr _ (by omega) (by omega), fr _ (by omega) (by omega)]
    exact h.2.2.2.2 hn2 j j0 j1
  · have : c < 32 ∨ 1844 ≤ c := by rcases hc with h | h | h | h <;> omega
    exact fr _ (by omega) (by omega)
theorem close_ok {d n b i : Int} {s : MS} (h : dV d n b s) (hd : dOk d) (hn : n ≤ 161) (hb : b ≤ 1000000) (hi : 0 ≤ i ∧ i < mg s (d * 2804 + 5)) : mClP s d i ∧ dV d n (b + 1) (mClose s d i) ∧ dH d s (mClose s d i) ∧ mg (mClose s d i) (d * 2804 + 5) = mg s (d * 2804 + 5) - 1 := by
  have hd0 : 0 ≤ d := hd.1
  have hcl : 0 ≤ mClosed s d := sum6_nn (f := fun k => mg s (d * 2804 + (36 + k))) (b := b) (by omega) h.2.2.1
  have ht := tmod40 hcl
  have hp : 0 ≤ pFi s d := by show 0 ≤ d * 2804 + 84 + 7 * Int.tmod (mClosed s d) 40; omega
  have hp1 : d * 2804 + 84 ≤ pFi s d ∧ pFi s d ≤ d * 2804 + 357 := by
    show d * 2804 + 84 ≤ d * 2804 + 84 + 7 * Int.tmod (mClosed s d) 40 ∧ d * 2804 + 84 + 7 * Int.tmod (mClosed s d) 40 ≤ _
    omega
  have fr : ∀ x, 0 ≤ x → (x < d * 2804 + 84 ∨ d * 2804 + 364 ≤ x) → mg (clL (pFi s d) d i 7 0 s) x = mg s x := fun x hx h => clL_fr _ d i hp 7 0 s x (by decide) hx (by omega)
  have h1 := clL_1 (pFi s d) d i 7 0 s
  have h5 := h.1
  have V : dV d n b (clL (pFi s d) d i 7 0 s) := by
    refine ⟨by rw [fr _ (by omega) (by omega)]; exact h.1, by rw [fr _ (by omega) (by omega)]; exact h.2.1, fun k k0 k1 => by rw [fr _ (by omega) (by omega)]; exact h.2.2.1 k k0 k1, fun j j0 j1 => ?_, fun hn2 j j0 j1 => ?_⟩
    · have r1 : rw_ d j = d * 2804 + 364 + 7 * j := rfl
      rw [fr _ (by omega) (by omega)] at j1
      rw [fr _ (by omega) (by omega)]
      exact h.2.2.2.1 j j0 j1
    · have r1 : rw_ d j = d * 2804 + 364 + 7 * j := rfl
      rw [fr _ (by omega) (by omega)] at j1
      rw [fr _ (by omega) (by omega), fr _ (by omega) (by omega)]
      exact h.2.2.2.2 hn2 j j0 j1
  have H0 : dH d s (clL (pFi s d) d i 7 0 s) := dH_c (fun c h0 hc => fr _ h0 (by rcases hc with h | h | h | h <;> omega)) h1 (fr _ (by omega) (by omega))
  have e5 : mg (clL (pFi s d) d i 7 0 s) (d * 2804 + 5) = mg s (d * 2804 + 5) := fr _ (by omega) (by omega)
  obtain ⟨V2, H2, f5⟩ := cl2_ok (i := i) V hd hn hb ⟨hi.1, by rw [e5]; exact hi.2⟩
  obtain ⟨V3, g5, g6⟩ := V2.out (i := i) hd hn ⟨hi.1, by rw [f5, e5]; exact hi.2⟩
  rw [f5, e5] at g5 g6
  refine ⟨⟨hp, ⟨V.2.2.2.1 i hi.1 (by rw [e5]; exact hi.2), by rw [g6]; omega, by rw [g6]; omega⟩, ?_⟩, V3, (H0.trans H2).trans (out_hd hd hi.1 (by rw [g6]; omega)), g5⟩
  show mg (mOut (mCl2 _ d i) d i) _ ≤ 161
  rw [g5]; omega
theorem cc_ok {d n : Int} {K : MS → Prop} (hd : dOk d) (hn : n ≤ 161) : ∀ (m : Nat) (b : Int) (s : MS), dV d n b s → b + m ≤ 1000000 → mg s (d * 2804 + 5) ≤ m → (∀ s', dH d s s' → dV d n (b + m) s' → K s') → ccP d K m (mFirstC s d) s
  | 0, b, s, hV, hb, hc, k => by
    refine ⟨?_, k s dH.same (hV.more (by omega))⟩
    rcases firstC_sp hV.1.1 with h | h
    · exact h
    · omega
  | m + 1, b, s, hV, hb, hc, k => by
    refine ⟨fun _ => k s dH.same (hV.more (by omega)), fun h0 => ?_⟩
    rcases firstC_sp hV.1.1 with h | h
    · exact absurd h (by omega)
    obtain ⟨c1, c2, c3, c4⟩ := close_ok (i := mFirstC s d) hV hd hn (by omega) h
    exact ⟨c1, cc_ok hd hn m (b + 1) _ c2 (by omega) (by omega) (fun s' hF hV' => k s' (c3.trans hF) (hV'.more (by omega)))⟩
end
-- 984.iy
section
/-! ===== what joins, and an event that comes ===== -/
theorem j1_ok {d n k t : Int} {K : MS → Prop} (hd : dOk d) (hn : n ≤ 160) : ∀ (m : Nat) (b i : Int) (s : MS), dV d n b s → 0 ≤ i → mg s (d * 2804 + 5) - i ≤ m → b + m ≤ 1000000 → (∀ s', dF d s s' → dV d n (b + m) s' → K s') → jnP1 d k t K m i s
  | 0, b, i, s, hV, hi, hm, hb, kk => ⟨by omega, kk s dF.same (hV.more (by omega))⟩
  | m + 1, b, i, s, hV, hi, hm, hb, kk => by
    have h5 := hV.1
    refine ⟨fun _ => kk s dF.same (hV.more (by omega)), fun h => ⟨by omega, fun _ => ?_, fun _ => j1_ok hd hn m b (i + 1) s hV (by omega) (by omega) (by omega) (fun s' hF hV' => kk s' hF (hV'.more (by omega)))⟩⟩
    obtain ⟨t1, t2, t3⟩ := hV.take hd (by omega) (by omega) ⟨hi, h⟩
    have F : dF d s (mS (mTake s d i) 12 (wI ((mTake s d i).1 12 + 1))) := t2.S (Or.inr (Or.inr rfl))
    have V : dV d n (b + 1) (mS (mTake s d i) 12 (wI ((mTake s d i).1 12 + 1))) := t1
    exact ⟨t3, j1_ok hd hn m (b + 1) (i + 1) _ V (by omega) (by rw [F.five hd]; omega) (by omega) (fun s' hF hV' => kk s' (F.trans hF) (hV'.more (by omega)))⟩
theorem mg_cong {s s' : MS} (h : s'.2 3 = s.2 3) (x : Int) : mg s' x = mg s x := by
  show s'.2 3 _ = s.2 3 _
  rw [h]
theorem dV.cong {d n b : Int} {s s' : MS} (hV : dV d n b s) (h : s'.2 3 = s.2 3) : dV d n b s' := by
  have e := mg_cong h
  refine ⟨by rw [e]; exact hV.1, by rw [e]; exact hV.2.1, fun k h0 h1 => by rw [e]; exact hV.2.2.1 k h0 h1, fun i h0 h1 => ?_, fun hn i h0 h1 => ?_⟩
  · rw [e] at h1
    rw [e]
    exact hV.2.2.2.1 i h0 h1
  · rw [e] at h1
    rw [e, e]
    exact hV.2.2.2.2 hn i h0 h1
theorem mF_3 (s : MS) (k : Nat) (v : Int) : (mF s k v).2 3 = s.2 3 := rfl
theorem mF_0 (s : MS) (k : Nat) (v : Int) : (mF s (k + 1) v).2 4 0 = s.2 4 0 := rfl
theorem mF_n {s : MS} {k j : Nat} {v : Int} (h : j ≠ k) : (mF s k v).2 4 j = s.2 4 j := if_neg h
theorem mF_e {s : MS} {k : Nat} {v : Int} : (mF s k v).2 4 k = v := if_pos rfl
theorem swal_3 (s : MS) (d i : Int) : (mSwal s d i).2 3 = s.2 3 := by
  unfold mSwal
  simp only [mF_3]
theorem swal_H (s : MS) (d i : Int) : dH d s (mSwal s d i) := by
  refine ⟨fun c _ _ => mg_cong (swal_3 s d i) _, ?_, ?_, ?_, Int.le_of_eq (mg_cong (swal_3 s d i) _).symm⟩
  · unfold mSwal
    exact (((sF_F.trans sF_F).trans sF_F).trans sF_F).trans sF_F
  · unfold mSwal
    simp only []
    rw [mF_0 _ 4, mF_0 _ 3, mF_0 _ 2, mF_0 _ 1, mF_0 _ 0]
  · intro h
    unfold mSwal
    simp only []
    rw [mF_n (by decide), mF_n (by decide), mF_n (by decide), mF_n (by decide), mF_e, mF_n (by decide), mF_n (by decide), mF_n (by decide), mF_e, mF_n (by decide)]
    omega
theorem inc4 {s : MS} {a v : Int} : (mInc s a v).2 4 = s.2 4 := rfl
theorem inc1 {s : MS} {a v : Int} : (mInc s a v).1 = s.1 := rfl
theorem j2_ok {d n b k t : Int} {K : MS → Prop} (hd : dOk d) (hn : n ≤ 160) : ∀ (m : Nat) (i : Int) (s : MS), dV d n b s → i < mg s (d * 2804 + 5) → i + 1 ≤ m → (∀ s', dH d s s' → dV d n b s' → K s') → jnP2 d k t K m i s
  | 0, i, s, hV, hi, hm, kk => ⟨by omega, kk s dH.same hV⟩
  | m + 1, i, s, hV, hi, hm, kk => by
    have h5 := hV.1
    refine ⟨fun _ => kk s dH.same hV, fun h => ⟨by omega, fun _ => ?_, fun _ => j2_ok hd hn m (i + -1) s hV (by omega) (by omega) kk⟩⟩
    have V0 := hV.cong (swal_3 s d i)
    have H0 := swal_H s d i
    have e5 := mg_cong (swal_3 s d i) (d * 2804 + 5)
    generalize mSwal s d i = u at V0 H0 e5 ⊢
    obtain ⟨V, g5, g6⟩ := V0.out (i := i) hd (by omega) ⟨h, by rw [e5]; exact hi⟩
    rw [e5] at g5 g6
    exact ⟨⟨by rw [g6]; omega, by rw [g6]; omega⟩, j2_ok hd hn m (i + -1) _ V (by rw [g5]; omega) (by omega) (fun s' hF hV' => kk s' ((H0.trans (out_hd hd h (by rw [g6]; omega))).trans hF) hV')⟩
theorem cpL_fr (a b : Int) (ha : 0 ≤ a) : ∀ (m : Nat) (k : Int) (s : MS) (x : Int), 0 ≤ k → 0 ≤ x → (x < a + k ∨ a + k + m ≤ x) → mg (cpL a b m k s) x = mg s x
  | 0, _, _, _, _, _, _ => rfl
  | m + 1, k, s, x, hk, hx, h => by
    rw [cpL, cpL_fr a b ha m (k + 1) _ x (by omega) hx (by omega), mg_ne (by omega) hx (by omega)]
theorem cpL_eq (a b : Int) (hb : 0 ≤ b) (hab : b + 7 ≤ a) : ∀ (m : Nat) (k : Int) (s : MS) (q : Int), 0 ≤ k → k ≤ q → q < k + m → q < 7 → mg (cpL a b m k s) (a + q) = mg s (b + q)
  | 0, _, _, _, _, _, _, _ => by omega
  | m + 1, k, s, q, hk, h0, h1, h7 => by
    rw [cpL]
    by_cases e : q = k
    · subst e
      rw [cpL_fr a b (by omega) m (q + 1) _ _ (by omega) (by omega) (by omega)]
      exact mg_eq
    · rw [cpL_eq a b hb hab m (k + 1) _ q (by omega) (by omega) (by omega) h7]
      exact mg_ne (by omega) (by omega) (by omega)
theorem cpL_1 (a b : Int) : ∀ (m : Nat) (k : Int) (s : MS), cF s (cpL a b m k s)
  | 0, _, _ => cF.same
  | m + 1, k, s => by
    rw [cpL]
    exact cF_P.trans (cpL_1 a b m (k + 1) _)
theorem fpL2_fr (a : Int) (ha : 0 ≤ a) : ∀ (m : Nat) (k : Int) (s : MS) (x : Int), 0 ≤ k → 0 ≤ x → (x < a + k ∨ a + k + m ≤ x) → mg (fpL2 a m k s) x = mg s x
  | 0, _, _, _, _, _, _ => rfl
  | m + 1, k, s, x, hk, hx, h => by
    rw [fpL2, fpL2_fr a ha m (k + 1) _ x (by omega) hx (by omega), mg_ne (by omega) hx (by omega)]
theorem fpL2_1 (a : Int) : ∀ (m : Nat) (k : Int) (s : MS), cF s (fpL2 a m k s)
  | 0, _, _ => cF.same
  | m + 1, k, s => by
    rw [fpL2]
    exact cF_P.trans (fpL2_1 a m (k + 1) _)
theorem fpL2_eq (a : Int) (ha : 0 ≤ a) : ∀ (m : Nat) (k : Int) (s : MS) (q : Int), 0 ≤ k → k ≤ q → q < k + m → mg (fpL2 a m k s) (a + q) = s.2 4 q.toNat
  | 0, _, _, _, _, _, _ => by omega
  | m + 1, k, s, q, hk, h0, h1 => by
    rw [fpL2]
    by_cases e : q = k
    · subst e
      rw [fpL2_fr a ha m (q + 1) _ _ (by omega) (by omega) (by omega)]
      exact mg_eq
    · rw [fpL2_eq a ha m (k + 1) _ q (by omega) (by omega) (by omega)]
      rfl
/-- a row as it should be -/
abbrev okR (s : MS) (d j : Int) : Prop := (0 ≤ mg s (rw_ d j + 0) ∧ mg s (rw_ d j + 0) ≤ 5) ∧ mg s (rw_ d j + 1) ≤ mg s (rw_ d j + 2)
theorem okR.of {s s' : MS} {d j j' : Int} (h : okR s d j) (e : ∀ q, 0 ≤ q → q < 7 → mg s' (rw_ d j' + q) = mg s (rw_ d j + q)) : okR s' d j' := by
  show (0 ≤ mg s' (rw_ d j' + 0) ∧ mg s' (rw_ d j' + 0) ≤ 5) ∧ mg s' (rw_ d j' + 1) ≤ mg s' (rw_ d j' + 2)
  rw [e 0 (by decide) (by decide), e 1 (by decide) (by decide), e 2 (by decide) (by decide)]
  exact h
theorem cm_ok {d N : Int} (hd : dOk d) : ∀ (i : Nat) (s : MS), (i : Int) ≤ N → (∀ j, 0 ≤ j → j ≤ N → j ≠ (i : Int) → okR s d j) → (cmL d i s).1 ≤ i ∧ (∀ x, 0 ≤ x → (x < d * 2804 + 364 ∨ d * 2804 + 364 + 7 * (N + 1) ≤ x) → mg (cmL d i s).2 x = mg s x) ∧ (∀ j, 0 ≤ j → j ≤ N → j ≠ ((cmL d i s).1 : Int) → okR (cmL d i s).2 d j) ∧ cF s (cmL d i s).2
  | 0, s, h, hk => ⟨Nat.le_refl _, fun _ _ _ => rfl, hk, cF.same⟩
  | i + 1, s, h, hk => by
    have hd0 : 0 ≤ d := hd.1
    rw [cmL]
    by_cases hc : mBehind s d (i : Int)
    · rw [if_pos hc]
      have hr : ∀ j, 0 ≤ j → j ≠ (i : Int) + 1 → ∀ q, 0 ≤ q → q < 7 → mg (cpL (d * 2804 + 364 + 7 * ((i : Int) + 1)) (d * 2804 + 364 + 7 * (i : Int)) 7 0 s) (rw_ d j + q) = mg s (rw_ d j + q) := fun j j0 j1 q q0 q1 => by
        have r1 : rw_ d j = d * 2804 + 364 + 7 * j := rfl
        exact cpL_fr _ _ (by omega) 7 0 s _ (by decide) (by omega) (by omega)
      have hr1 : ∀ q, 0 ≤ q → q < 7 → mg (cpL (d * 2804 + 364 + 7 * ((i : Int) + 1)) (d * 2804 + 364 + 7 * (i : Int)) 7 0 s) (rw_ d ((i : Int) + 1) + q) = mg s (rw_ d (i : Int) + q) := fun q q0 q1 => cpL_eq _ _ (by omega) (by omega) 7 0 s q (by decide) q0 (by omega) q1
      obtain ⟨g1, g2, g3, g4⟩ := cm_ok (N := N) hd i (cpL (d * 2804 + 364 + 7 * ((i : Int) + 1)) (d * 2804 + 364 + 7 * (i : Int)) 7 0 s) (by omega) (fun j j0 j1 j2 => by
        by_cases e : j = (i : Int) + 1
        · subst e
          exact (hk i (by omega) (by omega) (by omega)).of hr1
        · exact (hk j j0 j1 (by omega)).of (hr j j0 e))
      refine ⟨by omega, fun x hx hx2 => ?_, g3, (cpL_1 _ _ 7 0 s).trans g4⟩
      rw [g2 x hx hx2]
      exact cpL_fr _ _ (by omega) 7 0 s _ (by decide) hx (by omega)
    · rw [if_neg hc]
      exact ⟨Nat.le_refl _, fun _ _ _ => rfl, hk, cF.same⟩
theorem in_ok {d n b : Int} {s : MS} (hV : dV d n b s) (hd : dOk d) (hn : n ≤ 160) (hk : 0 ≤ s.2 4 0 ∧ s.2 4 0 ≤ 5) (hf : s.2 4 1 ≤ s.2 4 2) : dV d (n + 1) b (mIn s d).2 ∧ (0 ≤ ((mIn s d).1 : Int) ∧ ((mIn s d).1 : Int) < mg (mIn s d).2 (d * 2804 + 5)) ∧ dH d s (mIn s d).2 ∧ ∀ j, 0 ≤ j → j < mg (mIn s d).2 (d * 2804 + 5) → okR (mIn s d).2 d j := by
  have hd0 : 0 ≤ d := hd.1
  have h5 := hV.1
  have ez : (((mg s (d * 2804 + 5)).toNat : Nat) : Int) = mg s (d * 2804 + 5) := by omega
  obtain ⟨g1, g2, g3, g4⟩ := cm_ok (N := mg s (d * 2804 + 5)) hd (mg s (d * 2804 + 5)).toNat s (by omega) (fun j j0 j1 j2 => ⟨hV.2.2.2.1 j j0 (by omega), hV.2.2.2.2 hn j j0 (by omega)⟩)
  show dV d (n + 1) b (mInc (fpL2 _ 7 0 (cmL d _ s).2) (d * 2804 + 5) 1) ∧ (0 ≤ ((cmL d _ s).1 : Int) ∧ ((cmL d _ s).1 : Int) < mg (mInc (fpL2 _ 7 0 (cmL d _ s).2) (d * 2804 + 5) 1) (d * 2804 + 5)) ∧ dH d s (mInc (fpL2 _ 7 0 (cmL d _ s).2) (d * 2804 + 5) 1) ∧ ∀ j, 0 ≤ j → j < mg (mInc (fpL2 _ 7 0 (cmL d _ s).2) (d * 2804 + 5) 1) (d * 2804 + 5) → okR (mInc (fpL2 _ 7 0 (cmL d _ s).2) (d * 2804 + 5) 1) d j
  generalize (cmL d (mg s (d * 2804 + 5)).toNat s) = p at g1 g2 g3 g4 ⊢
  have f1 := (fpL2_1 (d * 2804 + 364 + 7 * (p.1 : Int)) 7 0 p.2)
  have lo : ∀ x, 0 ≤ x → (x < d * 2804 + 364 ∨ d * 2804 + 1491 ≤ x) → x ≠ d * 2804 + 5 → mg (mInc (fpL2 (d * 2804 + 364 + 7 * (p.1 : Int)) 7 0 p.2) (d * 2804 + 5) 1) x = mg s x := fun x hx h hne => by
    rw [mInc_ne (by omega) hx (fun e => hne e.symm), fpL2_fr _ (by omega) 7 0 _ x (by decide) hx (by omega)]
    exact g2 x hx (by omega)
  have e5 : mg (mInc (fpL2 (d * 2804 + 364 + 7 * (p.1 : Int)) 7 0 p.2) (d * 2804 + 5) 1) (d * 2804 + 5) = mg s (d * 2804 + 5) + 1 := by
    rw [mInc_eq, fpL2_fr _ (by omega) 7 0 _ _ (by decide) (by omega) (by omega), g2 _ (by omega) (by omega), wI_id ⟨by omega, by omega⟩]
  have rows : ∀ j, 0 ≤ j → j < mg (mInc (fpL2 (d * 2804 + 364 + 7 * (p.1 : Int)) 7 0 p.2) (d * 2804 + 5) 1) (d * 2804 + 5) → okR (mInc (fpL2 (d * 2804 + 364 + 7 * (p.1 : Int)) 7 0 p.2) (d * 2804 + 5) 1) d j := by
    intro j j0 j1
    rw [e5] at j1
    have r1 : rw_ d j = d * 2804 + 364 + 7 * j := rfl
    by_cases e : j = (p.1 : Int)
    · subst e
      have c4 : p.2.2 4 = s.2 4 := g4.2 4 (by decide)
      have this : ∀ q, 0 ≤ q → q < 7 → mg (mInc (fpL2 (d * 2804 + 364 + 7 * (p.1 : Int)) 7 0 p.2) (d * 2804 + 5) 1) (rw_ d (p.1 : Int) + q) = s.2 4 q.toNat := fun q q0 q1 => by
        rw [mInc_ne (by omega) (by omega) (by omega), ← c4]
        exact fpL2_eq _ (by omega) 7 0 p.2 q (by decide) q0 (by omega)
      show (0 ≤ mg _ (rw_ d (p.1 : Int) + 0) ∧ mg _ (rw_ d (p.1 : Int) + 0) ≤ 5) ∧ mg _ (rw_ d (p.1 : Int) + 1) ≤ mg _ (rw_ d (p.1 : Int) + 2)
      rw [this 0 (by decide) (by decide), this 1 (by decide) (by decide), this 2 (by decide) (by decide)]
      exact ⟨hk, hf⟩
    · refine (g3 j j0 (by omega) e).of (fun q q0 q1 => ?_)
      rw [mInc_ne (by omega) (by omega) (by omega)]
      exact fpL2_fr _ (by omega) 7 0 _ _ (by decide) (by omega) (by omega)
  refine ⟨⟨by rw [e5]; omega, ?_, fun k k0 k1 => ?_, fun j j0 j1 => (rows j j0 j1).1, fun _ j j0 j1 => (rows j j0 j1).2⟩, ⟨by omega, by rw [e5]; omega⟩, dH_c (fun c h0 hc => ?_) ((g4.trans f1).trans cF_I) (lo _ (by omega) (by omega) (by omega)), rows⟩
  · rw [lo _ (by omega) (by omega) (by omega)]; exact hV.2.1
  · rw [lo _ (by omega) (by omega) (by omega)]; exact hV.2.2.1 k k0 k1
  · have : (c < 32 ∨ 1844 ≤ c) ∧ c ≠ 5 := by rcases hc with h | h | h | h <;> omega
    exact lo _ h0 (by omega) (by omega)
end
-- 9845.sc
section
/-! ===== texts: the model reads ===== -/
-- X3_takesOf: heads [2]
def tX3_takesOf : Nat → Blk MS := fun pc => bif Nat.blt pc 50 then (bif Nat.blt pc 2 then (bif Nat.beq pc 0 then (oI 0 <| oIst 2 <| oM [true, true, true] (oTo 2)) else oNo) else (bif Nat.beq pc 2 then (oIld 2 <| oAld 1 <| oStrLength <| oCGe 56 <| oAld 0 <| oGet (fgM) 3 5 <| oAld 0 <| oGet (fgM) 3 6 <| oCGe 56 <| oAld 1 <| oIld 2 <| oStrCharat <| oAld 0 <| oGet (fgM) 3 3 <| oAld 0 <| oGet (fgM) 3 5 <| oIa (agM) <| oCNe 50 <| oAld 0 <| oDup <| oGet (fgM) 3 5 <| oI 1 <| oAdd <| oPut (fpM) 3 5 <| oIld 2 <| oIret) else oNo)) else (bif Nat.blt pc 56 then (bif Nat.beq pc 50 then (oInc 2 1 <| oM [true, true, true] (oTo 2)) else oNo) else (bif Nat.beq pc 56 then (oI (-1) <| oIret) else oNo))
theorem tX3_takesOf_ok : ∀ pc, bOk (encM) (bdM) mX3_takesOf 0 0 pc (tX3_takesOf pc) := fun pc => (tNode (tNode (tLeaf (okIc iX3_takesOf_0 <| okIstn iX3_takesOf_1 rfl (by decide) <| okM (okTo (tl rfl)))) (tLeaf (okIldn iX3_takesOf_2 rfl <| okAldn iX3_takesOf_3 rfl <| okStrLength iX3_takesOf_4 <| okCGe (tl rfl) iX3_takesOf_7 <| okAldn iX3_takesOf_10 rfl <| okGet (vFgM) iX3_takesOf_11 <| okAldn iX3_takesOf_14 rfl <| okGet (vFgM) iX3_takesOf_15 <| okCGe (tl rfl) iX3_takesOf_18 <| okAldn iX3_takesOf_21 rfl <| okIldn iX3_takesOf_22 rfl <| okStrCharat iX3_takesOf_23 <| okAldn iX3_takesOf_26 rfl <| okGet (vFgM) iX3_takesOf_27 <| okAldn iX3_takesOf_30 rfl <| okGet (vFgM) iX3_takesOf_31 <| okIa (vAgM) iX3_takesOf_34 <| okCNe (tl rfl) iX3_takesOf_35 <| okAldn iX3_takesOf_38 rfl <| okDup iX3_takesOf_39 <| okGet (vFgM) iX3_takesOf_40 <| okIc iX3_takesOf_43 <| okAdd iX3_takesOf_44 <| okPut (vFpM) iX3_takesOf_45 <| okIldn iX3_takesOf_48 rfl <| okIret iX3_takesOf_49 rfl))) (tNode (tLeaf (okInc iX3_takesOf_50 (by decide) <| okGotoM (tl rfl) iX3_takesOf_53)) (tLeaf (okIc iX3_takesOf_56 <| okIret iX3_takesOf_57 rfl)))) pc
def tkL (s : MS) (j : Nat) : Nat → Int → Int × MS
  | 0, _ => (-1, s)
  | m + 1, k => if s.1 6 ≤ s.1 5 then (-1, s) else if sbI j k = s.2 2 (s.1 5).toNat then (k, mS s 5 (s.1 5 + 1)) else tkL s j m (k + 1)
def gTk (s : MS) (j : Nat) : Int × MS := tkL s j (slI j).toNat 0
/-- reading goes on -/
def rF (s s' : MS) : Prop := (∀ k, k ≠ 5 → s'.1 k = s.1 k) ∧ (∀ a, a ≠ 5 → a ≠ 6 → a ≠ 7 → a ≠ 8 → a ≠ 11 → s'.2 a = s.2 a) ∧ s.1 5 ≤ s'.1 5 ∧ s'.1 5 ≤ max (s.1 5) (s.1 6)
theorem rF.same {s : MS} : rF s s := ⟨fun _ _ => rfl, fun _ _ _ _ _ _ => rfl, Int.le_refl _, by omega⟩
theorem rF.trans {s t u : MS} (h : rF s t) (g : rF t u) : rF s u := ⟨fun k hk => (g.1 k hk).trans (h.1 k hk), fun a p q r t v => (g.2.1 a p q r t v).trans (h.2.1 a p q r t v), by have := h.2.2; have := g.2.2; omega, by have h2 := h.2.2; have g2 := g.2.2; rw [h.1 6 (by decide)] at g2; omega⟩
theorem rF_A {s : MS} {a : Nat} {g : Nat → Int} (h : a = 5 ∨ a = 6 ∨ a = 7 ∨ a = 8 ∨ a = 11) : rF s (mA s a g) := ⟨fun _ _ => rfl, fun b h5 h6 h7 h8 h11 => mA_ne (by omega), Int.le_refl _, by show s.1 5 ≤ _; omega⟩
theorem tkL_f (s : MS) (j : Nat) : ∀ (m : Nat) (k : Int), 0 ≤ k → (tkL s j m k = (-1, s)) ∨ ((k ≤ (tkL s j m k).1 ∧ (tkL s j m k).1 < k + m) ∧ (tkL s j m k).2 = mS s 5 (s.1 5 + 1) ∧ s.1 5 < s.1 6)
  | 0, _, _ => Or.inl rfl
  | m + 1, k, hk => by
    rw [tkL]
    split
    · exact Or.inl rfl
    · split
      · exact Or.inr ⟨⟨Int.le_refl _, by show k < _; omega⟩, rfl, by omega⟩
      · rcases tkL_f s j m (k + 1) (by omega) with h | h
        · exact Or.inl h
        · exact Or.inr ⟨⟨by omega, by omega⟩, h.2⟩
theorem gTk_f (s : MS) (j : Nat) (hj : j < 9) : (-1 ≤ (gTk s j).1 ∧ (gTk s j).1 ≤ 9) ∧ rF s (gTk s j).2 ∧ (0 ≤ (gTk s j).1 → s.1 5 < (gTk s j).2.1 5) ∧ ((gTk s j).1 < slI j) := by
  have hs := slI_b j hj
  rcases tkL_f s j (slI j).toNat 0 (by decide) with h | ⟨h1, h2, h3⟩
  · have e : gTk s j = (-1, s) := h
    rw [e]
    exact ⟨⟨by show (-1 : Int) ≤ -1; decide, by show (-1 : Int) ≤ 9; decide⟩, rF.same, fun q => absurd q (by show ¬ (0 : Int) ≤ -1; decide), by show (-1 : Int) < _; omega⟩
  · have h1 : 0 ≤ (gTk s j).1 ∧ (gTk s j).1 < 0 + (((slI j).toNat : Nat) : Int) := h1
    have h2 : (gTk s j).2 = mS s 5 (s.1 5 + 1) := h2
    rw [h2]
    refine ⟨by omega, ⟨fun k hk => mS_ne hk, fun _ _ _ _ _ _ => rfl, by show s.1 5 ≤ s.1 5 + 1; omega, by show s.1 5 + 1 ≤ _; omega⟩, fun _ => by show s.1 5 < s.1 5 + 1; omega, by omega⟩
theorem X3_takesOf_l {K : KM} {Pt : MS → Prop} (s : MS) (j : Nat) (hj : j < 9) (h5 : 0 ≤ s.1 5) (h6 : s.1 6 ≤ 80) : ∀ (m : Nat) (k : Int), 0 ≤ k → k ≤ slI j → m = (slI j - k).toNat → K [pI (tkL s j m k).1] (tkL s j m k).2 → wX encM bdM mX3_takesOf 0 0 K Pt 2 [some (pR 0), some (pS j), some (pI k)] [] s := by
  intro m
  have hs := slI_b j hj
  induction m with
  | zero =>
    intro k h0 h1 hm hK
    refine wx_J [2] 9 tX3_takesOf_ok rfl (fun J hR hJ => ?_)
    have hK : K [pI (-1)] s := hK
    repeat' (first | (refine And.intro ?_ ?_) | (intro hq; first | (exact absurd hq (by omega)) | skip))
    all_goals first | omega | exact hR _ _ hK
  | succ m ih =>
    intro k h0 h1 hm hK
    refine wx_J [2] 9 tX3_takesOf_ok rfl (fun J hR hJ => ?_)
    rw [tkL] at hK
    have hc := sbI_B j k
    by_cases c : s.1 6 ≤ s.1 5
    · rw [if_pos c] at hK
      repeat' (first | (refine And.intro ?_ ?_) | (intro hq; first | (exact absurd hq (by omega)) | skip))
      all_goals first | omega | exact hR _ _ hK
    · rw [if_neg c] at hK
      by_cases c2 : sbI j k = s.2 2 (s.1 5).toNat
      · rw [if_pos c2] at hK
        repeat' (first | (refine And.intro ?_ ?_) | (intro hq; first | (exact absurd hq (by omega)) | skip))
        all_goals first | omega | exact hR _ _ hK | contradiction
      · rw [if_neg c2] at hK
        have g := ih (k + 1) (by omega) (by omega) (by omega) hK
        repeat' (first | (refine And.intro ?_ ?_) | (intro hq; first | (exact absurd hq (by omega)) | skip))
        all_goals first | omega | exact hJ _ _ _ _ g | contradiction
def sX3_takesOf : Nat → MS → KM → Prop := fun j s K => (j < 9 ∧ 0 ≤ s.1 5 ∧ s.1 6 ≤ 80) ∧ K [pI (gTk s j).1] (gTk s j).2
theorem mX3_takesOf_ok : mOk encM bdM mX3_takesOf (atR 0 (a0s sX3_takesOf)) := by
  refine mOVa0s kX3_takesOf (fun _ => rfl) (fun j s K h hb => wx_J [2] 9 tX3_takesOf_ok rfl (fun J hR hJ => ?_))
  obtain ⟨⟨h1, h2, h3⟩, hK⟩ := h
  have hs := slI_b j h1
  exact hJ _ _ _ _ (X3_takesOf_l s j h1 h2 h3 (slI j).toNat 0 (by omega) (by omega) (by omega) hK)
def cM_X3_takesOf : Sp MS := atR 0 (a0s sX3_takesOf)
theorem qM_X3_takesOf {M : XI} {rc rs pc pc2 : Nat} (d : xl_Ca M pc mX3_takesOf pc2) : cOk encM bdM M rc rs pc pc2 2 cM_X3_takesOf := cSame mX3_takesOf_ok vX3_takesOf d mcl rfl lenM recM
-- X3_digits: heads [4]
def tX3_digits : Nat → Blk MS := fun pc => bif Nat.blt pc 30 then (bif Nat.blt pc 4 then (bif Nat.beq pc 0 then (oI 0 <| oIst 2 <| oI 0 <| oIst 3 <| oM [true, true, true, true, false] (oTo 4)) else oNo) else (bif Nat.beq pc 4 then (oIld 3 <| oIld 1 <| oCGe 44 <| oIld 2 <| oZLt 44 <| oAld 0 <| oS 6 <| oC2 (cM_X3_takesOf) <| oIst 4 <| oIld 4 <| oZGe 30 <| oI (-1) <| oTo 37) else oNo)) else (bif Nat.blt pc 37 then (bif Nat.beq pc 30 then (oI 10 <| oIld 2 <| oMul <| oIld 4 <| oAdd <| oTo 37) else oNo) else (bif Nat.blt pc 44 then (bif Nat.beq pc 37 then (oIst 2 <| oInc 3 1 <| oM [true, true, true, true, false] (oTo 4)) else oNo) else (bif Nat.beq pc 44 then (oIld 2 <| oIret) else oNo)))
theorem tX3_digits_ok : ∀ pc, bOk (encM) (bdM) mX3_digits 0 0 pc (tX3_digits pc) := fun pc => (tNode (tNode (tLeaf (okIc iX3_digits_0 <| okIstn iX3_digits_1 rfl (by decide) <| okIc iX3_digits_2 <| okIstn iX3_digits_3 rfl (by decide) <| okM (okTo (tl rfl)))) (tLeaf (okIldn iX3_digits_4 rfl <| okIldn iX3_digits_5 rfl <| okCGe (tl rfl) iX3_digits_6 <| okIldn iX3_digits_9 rfl <| okZLt (tl rfl) iX3_digits_10 <| okAldn iX3_digits_13 rfl <| okS (j := 6) (by decide) rfl iX3_digits_14 <| okC2 (qM_X3_takesOf iX3_digits_16) <| okIst iX3_digits_19 (by decide) <| okIld iX3_digits_21 <| okZGe (tl rfl) iX3_digits_23 <| okIc iX3_digits_26 <| okGoto (tl rfl) iX3_digits_27))) (tNode (tLeaf (okBi iX3_digits_30 (by decide) <| okIldn iX3_digits_32 rfl <| okMul iX3_digits_33 <| okIld iX3_digits_34 <| okAdd iX3_digits_36 <| okTo (tl rfl))) (tNode (tLeaf (okIstn iX3_digits_37 rfl (by decide) <| okInc iX3_digits_38 (by decide) <| okGotoM (tl rfl) iX3_digits_41)) (tLeaf (okIldn iX3_digits_44 rfl <| okIret iX3_digits_45 rfl))))) pc
def dgV (v p : Int) : Int := if p < 0 then -1 else 10 * v + p
def dgL : Nat → Int → MS → Int × MS
  | 0, v, s => (v, s)
  | m + 1, v, s => if v < 0 then (v, s) else dgL m (dgV v (gTk s 6).1) (gTk s 6).2
def gDg (s : MS) (n : Int) : Int × MS := dgL n.toNat 0 s
def tb : Nat → Int
  | 0 => 1000000
  | m + 1 => tb m / 10
theorem tb_b : ∀ m, 0 ≤ tb m ∧ tb m ≤ 1000000
  | 0 => by decide
  | m + 1 => by
    have := tb_b m
    rw [tb]
    omega
theorem dgV_b {v p : Int} {m : Nat} (h : v < tb (m + 1)) (h0 : 0 ≤ v) (hp : p ≤ 9) : -1 ≤ dgV v p ∧ dgV v p < tb m ∨ dgV v p = -1 := by
  rw [tb] at h
  have := tb_b m
  unfold dgV
  split
  · exact Or.inr rfl
  · omega
theorem dgL_f : ∀ (m : Nat) (v : Int) (s : MS), -1 ≤ v → v < tb m ∨ v = -1 → (-1 ≤ (dgL m v s).1 ∧ (dgL m v s).1 < 1000000) ∧ rF s (dgL m v s).2 ∧ (0 < m → 0 ≤ v → 0 ≤ (dgL m v s).1 → s.1 5 < (dgL m v s).2.1 5)
  | 0, v, s, h0, h1 => ⟨⟨h0, by have h2 : tb 0 = 1000000 := rfl; show v < 1000000; omega⟩, rF.same, fun h => absurd h (by decide)⟩
  | m + 1, v, s, h0, h1 => by
    rw [dgL]
    split
    · exact ⟨⟨h0, by show v < 1000000; omega⟩, rF.same, fun _ _ q => by have q : 0 ≤ v := q; omega⟩
    · have g := gTk_f s 6 (by decide)
      rename_i c
      have hv : v < tb (m + 1) := by omega
      have b := dgV_b (p := (gTk s 6).1) hv (by omega) g.1.2
      have r := dgL_f m (dgV v (gTk s 6).1) (gTk s 6).2 (by omega) (by omega)
      refine ⟨r.1, g.2.1.trans r.2.1, fun _ _ q => ?_⟩
      have r2 := r.2.1.2.2.1
      by_cases hp : (gTk s 6).1 < 0
      · exfalso
        have e : dgV v (gTk s 6).1 = -1 := if_pos hp
        rw [e] at q
        have e2 : ∀ (m : Nat) (s : MS), (dgL m (-1) s).1 = -1 := fun m s => by
          cases m with
          | zero => rfl
          | succ m => rw [dgL, if_pos (by decide)]
        rw [e2] at q
        omega
      · have := g.2.2.1 (by omega)
        omega
theorem X3_digits_l {K : KM} {Pt : MS → Prop} (n : Int) (hn : 0 ≤ n ∧ n ≤ 5) : ∀ (m : Nat) (k v : Int) (s : MS), 0 ≤ s.1 5 → s.1 6 ≤ 80 → 0 ≤ k → k ≤ n → m = (n - k).toNat → -1 ≤ v → v < tb m ∨ v = -1 → K [pI (dgL m v s).1] (dgL m v s).2 → wX encM bdM mX3_digits 0 0 K Pt 4 [some (pR 0), some (pI n), some (pI v), some (pI k), none] [] s := by
  intro m
  induction m with
  | zero =>
    intro k v s h5 h6 h0 h1 hm hv0 hv1 hK
    refine wx_J [4] 9 tX3_digits_ok rfl (fun J hR hJ => ?_)
    have ht : tb 0 = 1000000 := rfl
    have hK : K [pI v] s := hK
    repeat' (first | (refine And.intro ?_ ?_) | (intro hq; first | (exact absurd hq (by omega)) | skip))
    all_goals first | omega | exact hR _ _ hK
  | succ m ih =>
    intro k v s h5 h6 h0 h1 hm hv0 hv1 hK
    refine wx_J [4] 9 tX3_digits_ok rfl (fun J hR hJ => ?_)
    rw [dgL] at hK
    have ht := tb_b m
    have ht2 : tb (m + 1) = tb m / 10 := rfl
    by_cases c : v < 0
    · rw [if_pos c] at hK
      repeat' (first | (refine And.intro ?_ ?_) | (intro hq; first | (exact absurd hq (by omega)) | skip))
      all_goals first | omega | exact hR _ _ hK
    · rw [if_neg c] at hK
      have g := gTk_f s 6 (by decide)
      have hv : v < tb (m + 1) := by omega
      have b := dgV_b (p := (gTk s 6).1) hv (by omega) g.1.2
      obtain ⟨⟨g1, g2⟩, gF, -⟩ := g
      have e5 := gF.2.2
      have e6 := gF.1 6 (by decide)
      have gg := ih (k + 1) _ _ (by omega) (by omega) (by omega) (by omega) (by omega) (by omega) (by omega) hK
      unfold dgV at gg
      by_cases cp : (gTk s 6).1 < 0
      · rw [if_pos cp] at gg
        repeat' (first | (refine And.intro ?_ ?_) | (intro hq; first | (exact absurd hq (by omega)) | skip))
        all_goals first | omega | exact hJ _ _ _ _ gg | decide
      · rw [if_neg cp] at gg
        repeat' (first | (refine And.intro ?_ ?_) | (intro hq; first | (exact absurd hq (by omega)) | skip))
        all_goals first | omega | exact hJ _ _ _ _ gg | decide
def sX3_digits : Int → MS → KM → Prop := fun n s K => ((0 ≤ n ∧ n ≤ 5) ∧ 0 ≤ s.1 5 ∧ s.1 6 ≤ 80) ∧ K [pI (gDg s n).1] (gDg s n).2
theorem mX3_digits_ok : mOk encM bdM mX3_digits (atR 0 (a1 sX3_digits)) := by
  refine mOVa1 kX3_digits (fun _ => rfl) (fun n s K h hb => wx_J [4] 9 tX3_digits_ok rfl (fun J hR hJ => ?_))
  obtain ⟨⟨h1, h2, h3⟩, hK⟩ := h
  have ht : ∀ m : Nat, m ≤ 5 → 0 < tb m := by decide
  have g := X3_digits_l (K := K) (Pt := fun _ => False) n h1 n.toNat 0 0 s h2 h3 (by omega) (by omega) (by omega) (by omega) (Or.inl (ht _ (by omega))) hK
  exact hJ _ _ _ _ g
def cM_X3_digits : Sp MS := atR 0 (a1 sX3_digits)
theorem qM_X3_digits {M : XI} {rc rs pc pc2 : Nat} (d : xl_Ca M pc mX3_digits pc2) : cOk encM bdM M rc rs pc pc2 2 cM_X3_digits := cSame mX3_digits_ok vX3_digits d mcl rfl lenM recM
end
-- 9846.sd
section
/-! ===== texts: the model reads an event ===== -/
-- X3_readsEvent: heads []
def tX3_readsEvent : Nat → Blk MS := fun pc => bif Nat.blt pc 69 then (bif Nat.blt pc 49 then (bif Nat.blt pc 30 then (bif Nat.beq pc 0 then (oAld 0 <| oGet (fgM) 3 13 <| oIld 1 <| oAld 0 <| oS 5 <| oC2 (cM_X3_takesOf) <| oIas (agM) (apM) <| oAld 0 <| oGet (fgM) 3 14 <| oIld 1 <| oAld 0 <| oGet (fgM) 3 13 <| oIld 1 <| oIa (agM) <| oZGe 30 <| oI (-1) <| oTo 35) else oNo) else (bif Nat.blt pc 35 then (bif Nat.beq pc 30 then (oAld 0 <| oI 4 <| oC2 (cM_X3_digits) <| oTo 35) else oNo) else (bif Nat.beq pc 35 then (oIas (agM) (apM) <| oAld 0 <| oGet (fgM) 3 14 <| oIld 1 <| oIa (agM) <| oZGe 49 <| oI (-1) <| oTo 55) else oNo))) else (bif Nat.blt pc 55 then (bif Nat.beq pc 49 then (oAld 0 <| oS 7 <| oC2 (cM_X3_takesOf) <| oTo 55) else oNo) else (bif Nat.blt pc 64 then (bif Nat.beq pc 55 then (oIst 3 <| oIld 3 <| oZGe 64 <| oI (-1) <| oTo 69) else oNo) else (bif Nat.beq pc 64 then (oAld 0 <| oI 2 <| oC2 (cM_X3_digits) <| oTo 69) else oNo)))) else (bif Nat.blt pc 104 then (bif Nat.blt pc 87 then (bif Nat.beq pc 69 then (oIst 4 <| oAld 0 <| oGet (fgM) 3 15 <| oIld 1 <| oIld 3 <| oI 1 <| oCNe 87 <| oIld 4 <| oNeg <| oTo 89) else oNo) else (bif Nat.blt pc 89 then (bif Nat.beq pc 87 then (oIld 4 <| oTo 89) else oNo) else (bif Nat.beq pc 89 then (oIas (agM) (apM) <| oAld 0 <| oGet (fgM) 3 16 <| oIld 1 <| oIld 4 <| oZGe 104 <| oI (-1) <| oTo 109) else oNo))) else (bif Nat.blt pc 121 then (bif Nat.blt pc 109 then (bif Nat.beq pc 104 then (oAld 0 <| oI 1 <| oC2 (cM_X3_digits) <| oTo 109) else oNo) else (bif Nat.beq pc 109 then (oIas (agM) (apM) <| oAld 0 <| oGet (fgM) 3 16 <| oIld 1 <| oIa (agM) <| oZGe 121 <| oI 0 <| oZret) else oNo)) else (bif Nat.blt pc 150 then (bif Nat.beq pc 121 then (oIld 2 <| oZNe 150 <| oAld 0 <| oAld 0 <| oGet (fgM) 3 16 <| oIld 1 <| oIa (agM) <| oC2 (cM_X3_isSource) <| oZNe 150 <| oAld 0 <| oDup <| oGet (fgM) 3 5 <| oI 1 <| oSub <| oPut (fpM) 3 5 <| oI 0 <| oZret) else oNo) else (bif Nat.beq pc 150 then (oI 1 <| oZret) else oNo))))
theorem tX3_readsEvent_ok : ∀ pc, bOk (encM) (bdM) mX3_readsEvent 0 0 pc (tX3_readsEvent pc) := fun pc => (tNode (tNode (tNode (tLeaf (okAldn iX3_readsEvent_0 rfl <| okGet (vFgM) iX3_readsEvent_1 <| okIldn iX3_readsEvent_4 rfl <| okAldn iX3_readsEvent_5 rfl <| okS (j := 5) (by decide) rfl iX3_readsEvent_6 <| okC2 (qM_X3_takesOf iX3_readsEvent_8) <| okIas (vAgM) iX3_readsEvent_11 <| okAldn iX3_readsEvent_12 rfl <| okGet (vFgM) iX3_readsEvent_13 <| okIldn iX3_readsEvent_16 rfl <| okAldn iX3_readsEvent_17 rfl <| okGet (vFgM) iX3_readsEvent_18 <| okIldn iX3_readsEvent_21 rfl <| okIa (vAgM) iX3_readsEvent_22 <| okZGe (tl rfl) iX3_readsEvent_23 <| okIc iX3_readsEvent_26 <| okGoto (tl rfl) iX3_readsEvent_27)) (tNode (tLeaf (okAldn iX3_readsEvent_30 rfl <| okIc iX3_readsEvent_31 <| okC2 (qM_X3_digits iX3_readsEvent_32) <| okTo (tl rfl))) (tLeaf (okIas (vAgM) iX3_readsEvent_35 <| okAldn iX3_readsEvent_36 rfl <| okGet (vFgM) iX3_readsEvent_37 <| okIldn iX3_readsEvent_40 rfl <| okIa (vAgM) iX3_readsEvent_41 <| okZGe (tl rfl) iX3_readsEvent_42 <| okIc iX3_readsEvent_45 <| okGoto (tl rfl) iX3_readsEvent_46)))) (tNode (tLeaf (okAldn iX3_readsEvent_49 rfl <| okS (j := 7) (by decide) rfl iX3_readsEvent_50 <| okC2 (qM_X3_takesOf iX3_readsEvent_52) <| okTo (tl rfl))) (tNode (tLeaf (okIstn iX3_readsEvent_55 rfl (by decide) <| okIldn iX3_readsEvent_56 rfl <| okZGe (tl rfl) iX3_readsEvent_57 <| okIc iX3_readsEvent_60 <| okGoto (tl rfl) iX3_readsEvent_61)) (tLeaf (okAldn iX3_readsEvent_64 rfl <| okIc iX3_readsEvent_65 <| okC2 (qM_X3_digits iX3_readsEvent_66) <| okTo (tl rfl)))))) (tNode (tNode (tLeaf (okIst iX3_readsEvent_69 (by decide) <| okAldn iX3_readsEvent_71 rfl <| okGet (vFgM) iX3_readsEvent_72 <| okIldn iX3_readsEvent_75 rfl <| okIldn iX3_readsEvent_76 rfl <| okIc iX3_readsEvent_77 <| okCNe (tl rfl) iX3_readsEvent_78 <| okIld iX3_readsEvent_81 <| okNeg iX3_readsEvent_83 <| okGoto (tl rfl) iX3_readsEvent_84)) (tNode (tLeaf (okIld iX3_readsEvent_87 <| okTo (tl rfl))) (tLeaf (okIas (vAgM) iX3_readsEvent_89 <| okAldn iX3_readsEvent_90 rfl <| okGet (vFgM) iX3_readsEvent_91 <| okIldn iX3_readsEvent_94 rfl <| okIld iX3_readsEvent_95 <| okZGe (tl rfl) iX3_readsEvent_97 <| okIc iX3_readsEvent_100 <| okGoto (tl rfl) iX3_readsEvent_101)))) (tNode (tNode (tLeaf (okAldn iX3_readsEvent_104 rfl <| okIc iX3_readsEvent_105 <| okC2 (qM_X3_digits iX3_readsEvent_106) <| okTo (tl rfl))) (tLeaf (okIas (vAgM) iX3_readsEvent_109 <| okAldn iX3_readsEvent_110 rfl <| okGet (vFgM) iX3_readsEvent_111 <| okIldn iX3_readsEvent_114 rfl <| okIa (vAgM) iX3_readsEvent_115 <| okZGe (tl rfl) iX3_readsEvent_116 <| okIc iX3_readsEvent_119 <| okZret iX3_readsEvent_120 rfl))) (tNode (tLeaf (okIldn iX3_readsEvent_121 rfl <| okZNe (tl rfl) iX3_readsEvent_122 <| okAldn iX3_readsEvent_125 rfl <| okAldn iX3_readsEvent_126 rfl <| okGet (vFgM) iX3_readsEvent_127 <| okIldn iX3_readsEvent_130 rfl <| okIa (vAgM) iX3_readsEvent_131 <| okC2 (qM_X3_isSource iX3_readsEvent_132) <| okZNe (tl rfl) iX3_readsEvent_135 <| okAldn iX3_readsEvent_138 rfl <| okDup iX3_readsEvent_139 <| okGet (vFgM) iX3_readsEvent_140 <| okIc iX3_readsEvent_143 <| okSub iX3_readsEvent_144 <| okPut (vFpM) iX3_readsEvent_145 <| okIc iX3_readsEvent_148 <| okZret iX3_readsEvent_149 rfl)) (tLeaf (okIc iX3_readsEvent_150 <| okZret iX3_readsEvent_151 rfl)))))) pc
theorem xup_e {g : Nat → Int} {k : Nat} {v : Int} : xup g k v k = v := if_pos rfl
theorem mA_e {s : MS} {a : Nat} {g : Nat → Int} : (mA s a g).2 a = g := by
  show (bif Nat.beq a a then g else s.2 a) = g
  rw [Nat.beq_refl]; rfl
def st5 (p : Int × MS) (k : Int) : MS := mA p.2 5 (xup (p.2.2 5) k.toNat p.1)
def st6 (p : Int × MS) (k : Int) : MS := mA p.2 6 (xup (p.2.2 6) k.toNat p.1)
def st7 (p : MS) (k v : Int) : MS := mA p 7 (xup (p.2 7) k.toNat v)
def st8 (p : Int × MS) (k : Int) : MS := mA p.2 8 (xup (p.2.2 8) k.toNat p.1)
def reF (s : MS) (v any : Int) : Int × MS := if v < 0 then (0, s) else if any = 0 ∧ ¬ mSrc s v then (0, mS s 5 (s.1 5 - 1)) else (1, s)
def reE5 (p : Int × MS) (k any : Int) : Int × MS := reF (st8 p k) p.1 any
def reE4 (s : MS) (k v any : Int) : Int × MS := if v < 0 then reE5 (-1, s) k any else reE5 (gDg s 1) k any
def reE3 (side : Int) (p : Int × MS) (k any : Int) : Int × MS := reE4 (st7 p.2 k (if side = 1 then -p.1 else p.1)) k p.1 any
def reE2 (p : Int × MS) (k any : Int) : Int × MS := if p.1 < 0 then reE3 p.1 (-1, p.2) k any else reE3 p.1 (gDg p.2 2) k any
def reE1 (p : Int × MS) (k any : Int) : Int × MS := if p.1 < 0 then reE2 (-1, st6 p k) k any else reE2 (gTk (st6 p k) 7) k any
def reE0 (p : Int × MS) (k any : Int) : Int × MS := if p.1 < 0 then reE1 (-1, st5 p k) k any else reE1 (gDg (st5 p k) 4) k any
def gRe (s : MS) (k any : Int) : Int × MS := reE0 (gTk s 5) k any
def sX3_readsEvent : Int → Int → MS → KM → Prop := fun k any s K => ((0 ≤ k ∧ k < 80) ∧ (any = 0 ∨ any = 1) ∧ 0 ≤ s.1 5 ∧ s.1 5 ≤ 80 ∧ s.1 6 ≤ 80 ∧ 0 ≤ mg s 0) ∧ K [pI (gRe s k any).1] (gRe s k any).2
section RE
variable {K : KM} {Pt : MS → Prop} (k any : Int) (hk : 0 ≤ k ∧ k < 80) (ha : any = 0 ∨ any = 1)
theorem re_121 (hk : 0 ≤ k ∧ k < 80) (ha : any = 0 ∨ any = 1) (s : MS) (v : Int) (L3 L4 : Option PV) (hv : s.2 8 k.toNat = v) (h5 : -100 ≤ s.1 5 ∧ s.1 5 ≤ 1000) (h0 : 0 ≤ mg s 0) (hK : K [pI (if any = 0 ∧ ¬ mSrc s v then ((0 : Int), mS s 5 (s.1 5 - 1)) else (1, s)).1] (if any = 0 ∧ ¬ mSrc s v then ((0 : Int), mS s 5 (s.1 5 - 1)) else (1, s)).2) : wX encM bdM mX3_readsEvent 0 0 K Pt 121 [some (pR 0), some (pI k), some (pI any), L3, L4] [] s := by
  refine wx_J [] 9 tX3_readsEvent_ok rfl (fun J hR hJ => ?_)
  subst hv
  by_cases c : any = 0 ∧ ¬ mSrc s (s.2 8 k.toNat)
  · rw [if_pos c] at hK
    obtain ⟨c1, c2⟩ := c
    repeat' (first | (refine And.intro ?_ ?_) | (intro hq; first | (exact absurd hq (by omega)) | skip))
    all_goals first | omega | exact hR _ _ hK | contradiction
  · rw [if_neg c] at hK
    repeat' (first | (refine And.intro ?_ ?_) | (intro hq; first | (exact absurd hq (by omega)) | skip))
    all_goals first | omega | exact hR _ _ hK | exact absurd ⟨by omega, by assumption⟩ c
theorem re_109 (hk : 0 ≤ k ∧ k < 80) (ha : any = 0 ∨ any = 1) (p : Int × MS) (L3 L4 : Option PV) (hp : -1 ≤ p.1 ∧ p.1 ≤ 1000000) (h5 : -100 ≤ p.2.1 5 ∧ p.2.1 5 ≤ 1000) (h0 : 0 ≤ mg p.2 0) (hK : K [pI (reE5 p k any).1] (reE5 p k any).2) : wX encM bdM mX3_readsEvent 0 0 K Pt 109 [some (pR 0), some (pI k), some (pI any), L3, L4] [pI p.1, pI k, pR 8] p.2 := by
  refine wx_J [121] 9 tX3_readsEvent_ok rfl (fun J hR hJ => ?_)
  refine ⟨⟨by omega, by omega, by omega, by omega⟩, ⟨by omega, by omega⟩, fun b => ⟨b, fun q => ?_, fun q => ?_⟩⟩
  · have q2 : 0 ≤ xup (p.2.2 8) k.toNat p.1 k.toNat := q
    rw [xup_e] at q2
    refine hJ _ _ _ _ (re_121 k any hk ha (st8 p k) p.1 L3 L4 xup_e h5 h0 ?_)
    unfold reE5 reF at hK
    rw [if_neg (by omega)] at hK
    exact hK
  · have q2 : xup (p.2.2 8) k.toNat p.1 k.toNat < 0 := q
    rw [xup_e] at q2
    unfold reE5 reF at hK
    rw [if_pos q2] at hK
    exact ⟨Or.inl rfl, hR _ _ hK⟩
def gd (s : MS) : Prop := 0 ≤ s.1 5 ∧ s.1 5 ≤ 80 ∧ s.1 6 ≤ 80 ∧ 0 ≤ mg s 0
theorem gd.r {s s' : MS} (h : gd s) (g : rF s s') : gd s' := by
  obtain ⟨a, b, c, d⟩ := h
  have e6 := g.1 6 (by decide)
  have e3 := g.2.1 3 (by decide) (by decide) (by decide) (by decide) (by decide)
  have e5 := g.2.2
  refine ⟨by omega, by omega, by omega, ?_⟩
  rw [mg_cong e3]
  exact d
theorem dg_b (s : MS) {n : Int} (hn : 1 ≤ n ∧ n ≤ 5) : (-1 ≤ (gDg s n).1 ∧ (gDg s n).1 < 1000000) ∧ rF s (gDg s n).2 ∧ (0 ≤ (gDg s n).1 → s.1 5 < (gDg s n).2.1 5) := by
  have ht : ∀ m : Nat, m ≤ 5 → 0 < tb m := by decide
  have g := dgL_f n.toNat 0 s (by decide) (Or.inl (ht _ (by omega)))
  exact ⟨g.1, g.2.1, fun q => g.2.2 (by omega) (by decide) q⟩
theorem re_89 (hk : 0 ≤ k ∧ k < 80) (ha : any = 0 ∨ any = 1) (q : MS) (w sd vv : Int) (hw : xB w) (hv : -1 ≤ vv ∧ vv ≤ 1000000) (hg : gd q) (hK : K [pI (reE4 (st7 q k w) k vv any).1] (reE4 (st7 q k w) k vv any).2) : wX encM bdM mX3_readsEvent 0 0 K Pt 89 [some (pR 0), some (pI k), some (pI any), some (pI sd), some (pI vv)] [pI w, pI k, pR 7] q := by
  refine wx_J [109] 9 tX3_readsEvent_ok rfl (fun J hR hJ => ?_)
  have hg1 : gd (st7 q k w) := hg.r (rF_A (by decide))
  refine ⟨⟨hk.1, by omega, hw⟩, ⟨by omega, by omega⟩, fun c => ?_, fun c => ?_⟩
  · have d := dg_b (st7 q k w) (n := 1) (by decide)
    have hg2 := hg1.r d.2.1
    unfold reE4 at hK
    rw [if_neg (by omega)] at hK
    exact ⟨⟨by decide, hg1.1, hg1.2.2.1⟩, hJ _ _ _ _ (re_109 k any hk ha (gDg (st7 q k w) 1) _ _ ⟨d.1.1, by omega⟩ ⟨by have := hg2.1; omega, by have := hg2.2.1; omega⟩ hg2.2.2.2 hK)⟩
  · unfold reE4 at hK
    rw [if_pos c] at hK
    exact hJ _ _ _ _ (re_109 k any hk ha (-1, st7 q k w) _ _ ⟨by show (-1 : Int) ≤ -1; decide, by show (-1 : Int) ≤ 1000000; decide⟩ ⟨by have := hg1.1; show -100 ≤ (st7 q k w).1 5; omega, by have := hg1.2.1; show (st7 q k w).1 5 ≤ 1000; omega⟩ hg1.2.2.2 hK)
theorem re_69 (hk : 0 ≤ k ∧ k < 80) (ha : any = 0 ∨ any = 1) (p : Int × MS) (sd : Int) (L4 : Option PV) (hs : -1 ≤ sd ∧ sd ≤ 9) (hp : -1 ≤ p.1 ∧ p.1 ≤ 1000000) (hg : gd p.2) (hK : K [pI (reE3 sd p k any).1] (reE3 sd p k any).2) : wX encM bdM mX3_readsEvent 0 0 K Pt 69 [some (pR 0), some (pI k), some (pI any), some (pI sd), L4] [pI p.1] p.2 := by
  refine wx_J [89] 9 tX3_readsEvent_ok rfl (fun J hR hJ => ?_)
  unfold reE3 at hK
  by_cases c : sd = 1
  · rw [if_pos c] at hK
    have g := re_89 (Pt := Pt) k any hk ha p.2 (-p.1) sd p.1 ⟨by omega, by omega⟩ hp hg hK
    repeat' (first | (refine And.intro ?_ ?_) | (intro hq; first | (exact absurd hq (by omega)) | skip))
    all_goals first | omega | exact hJ _ _ _ _ g
  · rw [if_neg c] at hK
    have g := re_89 (Pt := Pt) k any hk ha p.2 p.1 sd p.1 ⟨by omega, by omega⟩ hp hg hK
    repeat' (first | (refine And.intro ?_ ?_) | (intro hq; first | (exact absurd hq (by omega)) | skip))
    all_goals first | omega | exact hJ _ _ _ _ g
theorem re_55 (hk : 0 ≤ k ∧ k < 80) (ha : any = 0 ∨ any = 1) (p : Int × MS) (L3 L4 : Option PV) (hp : -1 ≤ p.1 ∧ p.1 ≤ 9) (hg : gd p.2) (hK : K [pI (reE2 p k any).1] (reE2 p k any).2) : wX encM bdM mX3_readsEvent 0 0 K Pt 55 [some (pR 0), some (pI k), some (pI any), L3, L4] [pI p.1] p.2 := by
  refine wx_J [69] 9 tX3_readsEvent_ok rfl (fun J hR hJ => ?_)
  unfold reE2 at hK
  have d := dg_b p.2 (n := 2) (by decide)
  by_cases c : p.1 < 0
  · rw [if_pos c] at hK
    have g := re_69 (Pt := Pt) k any hk ha (-1, p.2) p.1 L4 hp ⟨by show (-1 : Int) ≤ -1; decide, by show (-1 : Int) ≤ 1000000; decide⟩ hg hK
    repeat' (first | (refine And.intro ?_ ?_) | (intro hq; first | (exact absurd hq (by omega)) | skip))
    all_goals first | omega | exact hJ _ _ _ _ g
  · rw [if_neg c] at hK
    have g := re_69 (Pt := Pt) k any hk ha (gDg p.2 2) p.1 L4 hp ⟨d.1.1, by omega⟩ (hg.r d.2.1) hK
    obtain ⟨g1, g2, g3, g4⟩ := hg
    repeat' (first | (refine And.intro ?_ ?_) | (intro hq; first | (exact absurd hq (by omega)) | skip))
    all_goals first | omega | exact hJ _ _ _ _ g
theorem re_35 (hk : 0 ≤ k ∧ k < 80) (ha : any = 0 ∨ any = 1) (p : Int × MS) (L3 L4 : Option PV) (hp : -1 ≤ p.1 ∧ p.1 ≤ 1000000) (hg : gd p.2) (hK : K [pI (reE1 p k any).1] (reE1 p k any).2) : wX encM bdM mX3_readsEvent 0 0 K Pt 35 [some (pR 0), some (pI k), some (pI any), L3, L4] [pI p.1, pI k, pR 6] p.2 := by
  refine wx_J [55] 9 tX3_readsEvent_ok rfl (fun J hR hJ => ?_)
  have hg1 : gd (st6 p k) := hg.r (rF_A (by decide))
  refine ⟨⟨hk.1, by omega, by omega, by omega⟩, ⟨by omega, by omega⟩, fun b => ⟨b, fun q => ?_, fun q => ?_⟩⟩
  · have q2 : 0 ≤ xup (p.2.2 6) k.toNat p.1 k.toNat := q
    rw [xup_e] at q2
    unfold reE1 at hK
    rw [if_neg (by omega)] at hK
    have f := gTk_f (st6 p k) 7 (by decide)
    exact ⟨⟨by decide, hg1.1, hg1.2.2.1⟩, hJ _ _ _ _ (re_55 k any hk ha (gTk (st6 p k) 7) _ _ f.1 (hg1.r f.2.1) hK)⟩
  · have q2 : xup (p.2.2 6) k.toNat p.1 k.toNat < 0 := q
    rw [xup_e] at q2
    unfold reE1 at hK
    rw [if_pos q2] at hK
    exact hJ _ _ _ _ (re_55 k any hk ha (-1, st6 p k) _ _ ⟨by show (-1 : Int) ≤ -1; decide, by show (-1 : Int) ≤ 9; decide⟩ hg1 hK)
end RE
theorem mX3_readsEvent_ok : mOk encM bdM mX3_readsEvent (atR 0 (a2 sX3_readsEvent)) := by
  refine mOVa2 kX3_readsEvent (fun _ _ => rfl) (fun k any s K h hb => wx_J [35] 9 tX3_readsEvent_ok rfl (fun J hR hJ => ?_))
  obtain ⟨⟨hk, ha, hg⟩, hK⟩ := h
  have hg : gd s := hg
  have f := gTk_f s 5 (by decide)
  unfold gRe at hK
  refine ⟨⟨by decide, hg.1, hg.2.2.1⟩, ?_⟩
  generalize gTk s 5 = p at f hK ⊢
  obtain ⟨⟨g1, g2⟩, gF, -⟩ := f
  have hg0 := hg.r gF
  have hg1 : gd (st5 p k) := hg0.r (rF_A (by decide))
  refine ⟨⟨hk.1, by omega, by omega, by omega⟩, ⟨by omega, by omega⟩, fun b => ⟨b, fun q => ?_, fun q => ?_⟩⟩
  · have q2 : 0 ≤ xup (p.2.2 5) k.toNat p.1 k.toNat := q
    rw [xup_e] at q2
    unfold reE0 at hK
    rw [if_neg (by omega)] at hK
    have d := dg_b (st5 p k) (n := 4) (by decide)
    exact ⟨⟨by decide, hg1.1, hg1.2.2.1⟩, hJ _ _ _ _ (re_35 k any hk ha (gDg (st5 p k) 4) _ _ ⟨d.1.1, by omega⟩ (hg1.r d.2.1) hK)⟩
  · have q2 : xup (p.2.2 5) k.toNat p.1 k.toNat < 0 := q
    rw [xup_e] at q2
    unfold reE0 at hK
    rw [if_pos q2] at hK
    exact hJ _ _ _ _ (re_35 k any hk ha (-1, st5 p k) _ _ ⟨by show (-1 : Int) ≤ -1; decide, by show (-1 : Int) ≤ 1000000; decide⟩ hg1 hK)
def cM_X3_readsEvent : Sp MS := atR 0 (a2 sX3_readsEvent)
theorem qM_X3_readsEvent {M : XI} {rc rs pc pc2 : Nat} (d : xl_Ca M pc mX3_readsEvent pc2) : cOk encM bdM M rc rs pc pc2 3 cM_X3_readsEvent := cSame mX3_readsEvent_ok vX3_readsEvent d mcl rfl lenM recM
end
-- 9847.se
section
/-! ===== texts: the model reads an act ===== -/
theorem tkL_2 (s : MS) (j : Nat) : ∀ (m : Nat) (k : Int), (tkL s j m k).2.2 = s.2
  | 0, _ => rfl
  | m + 1, k => by
    rw [tkL]
    split
    · rfl
    · split
      · rfl
      · exact tkL_2 s j m (k + 1)
theorem dgL_2 : ∀ (m : Nat) (v : Int) (s : MS), (dgL m v s).2.2 = s.2
  | 0, _, _ => rfl
  | m + 1, v, s => by
    rw [dgL]
    split
    · rfl
    · rw [dgL_2 m]
      exact tkL_2 s 6 _ 0
theorem gDg_2 (s : MS) (n : Int) : (gDg s n).2.2 = s.2 := dgL_2 _ _ s
theorem gTk_2 (s : MS) (j : Nat) : (gTk s j).2.2 = s.2 := tkL_2 s j _ 0
theorem reF_01 (s : MS) (v any : Int) : (reF s v any).1 = 0 ∨ (reF s v any).1 = 1 := by
  unfold reF
  repeat' split
  all_goals first | exact Or.inl rfl | exact Or.inr rfl
theorem gRe_01 (s : MS) (k any : Int) : (gRe s k any).1 = 0 ∨ (gRe s k any).1 = 1 := by
  unfold gRe reE0 reE1 reE2 reE3 reE4 reE5
  repeat' split
  all_goals exact reF_01 _ _ _
-- X3_readsAct: heads []
def tX3_readsAct : Nat → Blk MS := fun pc => bif Nat.blt pc 71 then (bif Nat.blt pc 47 then (bif Nat.blt pc 29 then (bif Nat.beq pc 0 then (oAld 0 <| oGet (fgM) 3 20 <| oIld 1 <| oAld 0 <| oS 8 <| oC2 (cM_X3_takesOf) <| oIas (agM) (apM) <| oAld 0 <| oGet (fgM) 3 20 <| oIld 1 <| oIa (agM) <| oZNe 29 <| oAld 0 <| oIld 1 <| oI 1 <| oC3 (cM_X3_readsEvent) <| oZret) else oNo) else (bif Nat.beq pc 29 then (oAld 0 <| oGet (fgM) 3 16 <| oIld 1 <| oAld 0 <| oGet (fgM) 3 20 <| oIld 1 <| oIa (agM) <| oZGe 47 <| oI (-1) <| oTo 52) else oNo)) else (bif Nat.blt pc 52 then (bif Nat.beq pc 47 then (oAld 0 <| oI 1 <| oC2 (cM_X3_digits) <| oTo 52) else oNo) else (bif Nat.beq pc 52 then (oIas (agM) (apM) <| oAld 0 <| oGet (fgM) 3 14 <| oIld 1 <| oAld 0 <| oGet (fgM) 3 16 <| oIld 1 <| oIa (agM) <| oZGe 71 <| oI (-1) <| oTo 90) else oNo))) else (bif Nat.blt pc 90 then (bif Nat.blt pc 89 then (bif Nat.beq pc 71 then (oAld 0 <| oGet (fgM) 3 20 <| oIld 1 <| oIa (agM) <| oI 1 <| oCNe 89 <| oAld 0 <| oI 5 <| oC2 (cM_X3_digits) <| oTo 90) else oNo) else (bif Nat.beq pc 89 then (oI 0 <| oTo 90) else oNo)) else (bif Nat.blt pc 104 then (bif Nat.beq pc 90 then (oIas (agM) (apM) <| oAld 0 <| oGet (fgM) 3 14 <| oIld 1 <| oIa (agM) <| oZLt 104 <| oI 1 <| oTo 105) else oNo) else (bif Nat.blt pc 105 then (bif Nat.beq pc 104 then (oI 0 <| oTo 105) else oNo) else (bif Nat.beq pc 105 then (oZret) else oNo))))
theorem tX3_readsAct_ok : ∀ pc, bOk (encM) (bdM) mX3_readsAct 0 0 pc (tX3_readsAct pc) := fun pc => (tNode (tNode (tNode (tLeaf (okAldn iX3_readsAct_0 rfl <| okGet (vFgM) iX3_readsAct_1 <| okIldn iX3_readsAct_4 rfl <| okAldn iX3_readsAct_5 rfl <| okSw (j := 8) (by decide) rfl iX3_readsAct_6 <| okC2 (qM_X3_takesOf iX3_readsAct_9) <| okIas (vAgM) iX3_readsAct_12 <| okAldn iX3_readsAct_13 rfl <| okGet (vFgM) iX3_readsAct_14 <| okIldn iX3_readsAct_17 rfl <| okIa (vAgM) iX3_readsAct_18 <| okZNe (tl rfl) iX3_readsAct_19 <| okAldn iX3_readsAct_22 rfl <| okIldn iX3_readsAct_23 rfl <| okIc iX3_readsAct_24 <| okC3 (qM_X3_readsEvent iX3_readsAct_25) <| okZret iX3_readsAct_28 rfl)) (tLeaf (okAldn iX3_readsAct_29 rfl <| okGet (vFgM) iX3_readsAct_30 <| okIldn iX3_readsAct_33 rfl <| okAldn iX3_readsAct_34 rfl <| okGet (vFgM) iX3_readsAct_35 <| okIldn iX3_readsAct_38 rfl <| okIa (vAgM) iX3_readsAct_39 <| okZGe (tl rfl) iX3_readsAct_40 <| okIc iX3_readsAct_43 <| okGoto (tl rfl) iX3_readsAct_44))) (tNode (tLeaf (okAldn iX3_readsAct_47 rfl <| okIc iX3_readsAct_48 <| okC2 (qM_X3_digits iX3_readsAct_49) <| okTo (tl rfl))) (tLeaf (okIas (vAgM) iX3_readsAct_52 <| okAldn iX3_readsAct_53 rfl <| okGet (vFgM) iX3_readsAct_54 <| okIldn iX3_readsAct_57 rfl <| okAldn iX3_readsAct_58 rfl <| okGet (vFgM) iX3_readsAct_59 <| okIldn iX3_readsAct_62 rfl <| okIa (vAgM) iX3_readsAct_63 <| okZGe (tl rfl) iX3_readsAct_64 <| okIc iX3_readsAct_67 <| okGoto (tl rfl) iX3_readsAct_68)))) (tNode (tNode (tLeaf (okAldn iX3_readsAct_71 rfl <| okGet (vFgM) iX3_readsAct_72 <| okIldn iX3_readsAct_75 rfl <| okIa (vAgM) iX3_readsAct_76 <| okIc iX3_readsAct_77 <| okCNe (tl rfl) iX3_readsAct_78 <| okAldn iX3_readsAct_81 rfl <| okIc iX3_readsAct_82 <| okC2 (qM_X3_digits iX3_readsAct_83) <| okGoto (tl rfl) iX3_readsAct_86)) (tLeaf (okIc iX3_readsAct_89 <| okTo (tl rfl)))) (tNode (tLeaf (okIas (vAgM) iX3_readsAct_90 <| okAldn iX3_readsAct_91 rfl <| okGet (vFgM) iX3_readsAct_92 <| okIldn iX3_readsAct_95 rfl <| okIa (vAgM) iX3_readsAct_96 <| okZLt (tl rfl) iX3_readsAct_97 <| okIc iX3_readsAct_100 <| okGoto (tl rfl) iX3_readsAct_101)) (tNode (tLeaf (okIc iX3_readsAct_104 <| okTo (tl rfl))) (tLeaf (okZret iX3_readsAct_105 rfl)))))) pc
def st11 (p : Int × MS) (k : Int) : MS := mA p.2 11 (xup (p.2.2 11) k.toNat p.1)
def raE3 (p : Int × MS) (k : Int) : Int × MS := (if p.1 < 0 then 0 else 1, st6 p k)
def raE2 (p : Int × MS) (k a : Int) : Int × MS := if p.1 < 0 then raE3 (-1, st8 p k) k else if a = 1 then raE3 (gDg (st8 p k) 5) k else raE3 (0, st8 p k) k
def raE1 (s : MS) (k a : Int) : Int × MS := if a < 0 then raE2 (-1, s) k a else raE2 (gDg s 1) k a
def raE0 (p : Int × MS) (k : Int) : Int × MS := if p.1 = 0 then gRe (st11 p k) k 1 else raE1 (st11 p k) k p.1
def gRa (s : MS) (k : Int) : Int × MS := raE0 (gTk s 8) k
def sX3_readsAct : Int → MS → KM → Prop := fun k s K => ((0 ≤ k ∧ k < 80) ∧ 0 ≤ s.1 5 ∧ s.1 5 ≤ 80 ∧ s.1 6 ≤ 80 ∧ 0 ≤ mg s 0) ∧ K [pI (gRa s k).1] (gRa s k).2
theorem ra_90 {K : KM} {Pt : MS → Prop} (k : Int) (hk : 0 ≤ k ∧ k < 80) (p : Int × MS) (hp : -1 ≤ p.1 ∧ p.1 ≤ 1000000) (hK : K [pI (raE3 p k).1] (raE3 p k).2) : wX encM bdM mX3_readsAct 0 0 K Pt 90 [some (pR 0), some (pI k)] [pI p.1, pI k, pR 6] p.2 := by
  refine wx_J [] 9 tX3_readsAct_ok rfl (fun J hR hJ => ?_)
  refine ⟨⟨hk.1, by omega, by omega, by omega⟩, ⟨by omega, by omega⟩, fun b => ⟨b, fun q => ?_, fun q => ?_⟩⟩
  · have q2 : xup (p.2.2 6) k.toNat p.1 k.toNat < 0 := q
    rw [xup_e] at q2
    unfold raE3 at hK
    rw [if_pos q2] at hK
    exact ⟨Or.inl rfl, hR _ _ hK⟩
  · have q2 : 0 ≤ xup (p.2.2 6) k.toNat p.1 k.toNat := q
    rw [xup_e] at q2
    unfold raE3 at hK
    rw [if_neg (by omega)] at hK
    exact ⟨Or.inr rfl, hR _ _ hK⟩
theorem ra_52 {K : KM} {Pt : MS → Prop} (k : Int) (hk : 0 ≤ k ∧ k < 80) (p : Int × MS) (a : Int) (ha : p.2.2 11 k.toNat = a) (hp : -1 ≤ p.1 ∧ p.1 ≤ 1000000) (hg : gd p.2) (hK : K [pI (raE2 p k a).1] (raE2 p k a).2) : wX encM bdM mX3_readsAct 0 0 K Pt 52 [some (pR 0), some (pI k)] [pI p.1, pI k, pR 8] p.2 := by
  refine wx_J [90] 9 tX3_readsAct_ok rfl (fun J hR hJ => ?_)
  have hg1 : gd (st8 p k) := hg.r (rF_A (by decide))
  unfold raE2 at hK
  refine ⟨⟨hk.1, by omega, by omega, by omega⟩, ⟨by omega, by omega⟩, fun b => ⟨b, fun q => ?_, fun q => ?_⟩⟩
  · have q2 : 0 ≤ xup (p.2.2 8) k.toNat p.1 k.toNat := q
    rw [xup_e] at q2
    rw [if_neg (by omega)] at hK
    refine ⟨⟨by omega, by omega⟩, fun b2 => ⟨⟨b2, by omega, by omega⟩, fun c => ?_, fun c => ?_⟩⟩
    · have c : p.2.2 11 k.toNat ≠ 1 := c
      rw [if_neg (by rw [← ha]; exact c)] at hK
      exact hJ _ _ _ _ (ra_90 k hk (0, st8 p k) ⟨by show (-1 : Int) ≤ 0; decide, by show (0 : Int) ≤ 1000000; decide⟩ hK)
    · have c : p.2.2 11 k.toNat = 1 := c
      rw [if_pos (by rw [← ha]; exact c)] at hK
      have d := dg_b (st8 p k) (n := 5) (by decide)
      exact ⟨⟨by decide, hg1.1, hg1.2.2.1⟩, hJ _ _ _ _ (ra_90 k hk (gDg (st8 p k) 5) ⟨d.1.1, by omega⟩ hK)⟩
  · have q2 : xup (p.2.2 8) k.toNat p.1 k.toNat < 0 := q
    rw [xup_e] at q2
    rw [if_pos q2] at hK
    exact hJ _ _ _ _ (ra_90 k hk (-1, st8 p k) ⟨by show (-1 : Int) ≤ -1; decide, by show (-1 : Int) ≤ 1000000; decide⟩ hK)
theorem mX3_readsAct_ok : mOk encM bdM mX3_readsAct (atR 0 (a1 sX3_readsAct)) := by
  refine mOVa1 kX3_readsAct (fun _ => rfl) (fun k s K h hb => wx_J [52] 9 tX3_readsAct_ok rfl (fun J hR hJ => ?_))
  obtain ⟨⟨hk, hg⟩, hK⟩ := h
  have hg : gd s := hg
  have f := gTk_f s 8 (by decide)
  unfold gRa at hK
  refine ⟨⟨by decide, hg.1, hg.2.2.1⟩, ?_⟩
  generalize gTk s 8 = p at f hK ⊢
  obtain ⟨⟨g1, g2⟩, gF, -⟩ := f
  have hg0 := hg.r gF
  have hg1 : gd (st11 p k) := hg0.r (rF_A (by decide))
  have e11 : (st11 p k).2 11 k.toNat = p.1 := xup_e
  unfold raE0 at hK
  refine ⟨⟨hk.1, by omega, by omega, by omega⟩, ⟨by omega, by omega⟩, fun b => ⟨b, fun q => ?_, fun q => ?_⟩⟩
  · have q2 : xup (p.2.2 11) k.toNat p.1 k.toNat ≠ 0 := q
    rw [xup_e] at q2
    rw [if_neg q2] at hK
    unfold raE1 at hK
    refine ⟨⟨by omega, by omega⟩, fun b2 => ⟨b2, fun c => ?_, fun c => ?_⟩⟩
    · have c : 0 ≤ xup (p.2.2 11) k.toNat p.1 k.toNat := c
      rw [xup_e] at c
      rw [if_neg (by omega)] at hK
      have d := dg_b (st11 p k) (n := 1) (by decide)
      have ed : (gDg (st11 p k) 1).2.2 11 k.toNat = p.1 := by
        have := gDg_2 (st11 p k) 1
        rw [this, e11]
      exact ⟨⟨by decide, hg1.1, hg1.2.2.1⟩, hJ _ _ _ _ (ra_52 k hk (gDg (st11 p k) 1) p.1 ed ⟨d.1.1, by omega⟩ (hg1.r d.2.1) hK)⟩
    · have c : xup (p.2.2 11) k.toNat p.1 k.toNat < 0 := c
      rw [xup_e] at c
      rw [if_pos c] at hK
      exact hJ _ _ _ _ (ra_52 k hk (-1, st11 p k) p.1 e11 ⟨by show (-1 : Int) ≤ -1; decide, by show (-1 : Int) ≤ 1000000; decide⟩ hg1 hK)
  · have q2 : xup (p.2.2 11) k.toNat p.1 k.toNat = 0 := q
    rw [xup_e] at q2
    rw [if_pos q2] at hK
    refine ⟨⟨hk, Or.inr rfl, hg1⟩, ?_, hR _ _ hK⟩
    exact gRe_01 _ _ _
def cM_X3_readsAct : Sp MS := atR 0 (a1 sX3_readsAct)
theorem qM_X3_readsAct {M : XI} {rc rs pc pc2 : Nat} (d : xl_Ca M pc mX3_readsAct pc2) : cOk encM bdM M rc rs pc pc2 2 cM_X3_readsAct := cSame mX3_readsAct_ok vX3_readsAct d mcl rfl lenM recM
end
-- 9848.sf
section
/-! ===== texts: an act is done; events of the model ===== -/
-- X3_doesAct: heads []
def tX3_doesAct : Nat → Blk MS := fun pc => bif Nat.blt pc 61 then (bif Nat.blt pc 32 then (bif Nat.beq pc 0 then (oAld 0 <| oGet (fgM) 3 20 <| oIld 1 <| oIa (agM) <| oLook [(0, 32), (1, 61)] 78) else oNo) else (bif Nat.beq pc 32 then (oAld 0 <| oAld 0 <| oGet (fgM) 3 13 <| oIld 1 <| oIa (agM) <| oAld 0 <| oGet (fgM) 3 14 <| oIld 1 <| oIa (agM) <| oAld 0 <| oGet (fgM) 3 15 <| oIld 1 <| oIa (agM) <| oAld 0 <| oGet (fgM) 3 16 <| oIld 1 <| oIa (agM) <| oC5 (cM_X3_eventOne) <| oIret) else oNo)) else (bif Nat.blt pc 78 then (bif Nat.beq pc 61 then (oAld 0 <| oAld 0 <| oGet (fgM) 3 16 <| oIld 1 <| oIa (agM) <| oAld 0 <| oGet (fgM) 3 14 <| oIld 1 <| oIa (agM) <| oC3 (cM_X3_marksOne) <| oIret) else oNo) else (bif Nat.beq pc 78 then (oAld 0 <| oAld 0 <| oGet (fgM) 3 16 <| oIld 1 <| oIa (agM) <| oC2 (cM_X3_idlesOne) <| oIret) else oNo))
theorem tX3_doesAct_ok : ∀ pc, bOk (encM) (bdM) mX3_doesAct 0 0 pc (tX3_doesAct pc) := fun pc => (tNode (tNode (tLeaf (okAldn iX3_doesAct_0 rfl <| okGet (vFgM) iX3_doesAct_1 <| okIldn iX3_doesAct_4 rfl <| okIa (vAgM) iX3_doesAct_5 <| okLook (by decide +kernel) (by decide +kernel) (by decide +kernel) iX3_doesAct_6.1)) (tLeaf (okAldn iX3_doesAct_32 rfl <| okAldn iX3_doesAct_33 rfl <| okGet (vFgM) iX3_doesAct_34 <| okIldn iX3_doesAct_37 rfl <| okIa (vAgM) iX3_doesAct_38 <| okAldn iX3_doesAct_39 rfl <| okGet (vFgM) iX3_doesAct_40 <| okIldn iX3_doesAct_43 rfl <| okIa (vAgM) iX3_doesAct_44 <| okAldn iX3_doesAct_45 rfl <| okGet (vFgM) iX3_doesAct_46 <| okIldn iX3_doesAct_49 rfl <| okIa (vAgM) iX3_doesAct_50 <| okAldn iX3_doesAct_51 rfl <| okGet (vFgM) iX3_doesAct_52 <| okIldn iX3_doesAct_55 rfl <| okIa (vAgM) iX3_doesAct_56 <| okC5 (qM_X3_eventOne iX3_doesAct_57) <| okIret iX3_doesAct_60 rfl))) (tNode (tLeaf (okAldn iX3_doesAct_61 rfl <| okAldn iX3_doesAct_62 rfl <| okGet (vFgM) iX3_doesAct_63 <| okIldn iX3_doesAct_66 rfl <| okIa (vAgM) iX3_doesAct_67 <| okAldn iX3_doesAct_68 rfl <| okGet (vFgM) iX3_doesAct_69 <| okIldn iX3_doesAct_72 rfl <| okIa (vAgM) iX3_doesAct_73 <| okC3 (qM_X3_marksOne iX3_doesAct_74) <| okIret iX3_doesAct_77 rfl)) (tLeaf (okAldn iX3_doesAct_78 rfl <| okAldn iX3_doesAct_79 rfl <| okGet (vFgM) iX3_doesAct_80 <| okIldn iX3_doesAct_83 rfl <| okIa (vAgM) iX3_doesAct_84 <| okC2 (qM_X3_idlesOne iX3_doesAct_85) <| okIret iX3_doesAct_88 rfl)))) pc
def sX3_doesAct : Int → MS → KM → Prop := fun k s K => ((0 ≤ k ∧ k < 80) ∧ 0 ≤ mg s 0 ∧ mg s 0 ≤ 4) ∧ (s.2 11 k.toNat = 0 → ∃ n, evP s (s.2 5 k.toNat) (s.2 6 k.toNat) (s.2 7 k.toNat) (s.2 8 k.toNat) n (fun a s' => xB a → K [pI a] s')) ∧ (s.2 11 k.toNat ≠ 0 → (s.2 11 k.toNat = 1 → ∃ n, mkP s (s.2 8 k.toNat) (s.2 6 k.toNat) n (fun a s' => xB a → K [pI a] s')) ∧ (s.2 11 k.toNat ≠ 1 → ∃ n, idP s (s.2 8 k.toNat) n (fun a s' => xB a → K [pI a] s')))
theorem mX3_doesAct_ok : mOk encM bdM mX3_doesAct (atR 0 (a1 sX3_doesAct)) := by
  refine mOVa1 kX3_doesAct (fun _ => rfl) (fun k s K h hb => wx_J [] 9 tX3_doesAct_ok rfl (fun J hR hJ => ?_))
  obtain ⟨⟨hk, hz⟩, p0, p1⟩ := h
  have z80 : 0 ≤ k ∧ k < ((80 : Nat) : Int) := hk
  refine ⟨z80, fun b => ⟨b, fun c => ?_, fun c => ⟨fun c1 => ?_, fun c1 => ?_⟩⟩⟩
  · obtain ⟨n, p⟩ := p0 c
    refine ⟨z80, fun b1 => ⟨z80, fun b2 => ⟨z80, fun b3 => ⟨z80, fun b4 => ⟨⟨⟨b1, b2, b3, b4⟩, hz⟩, n, evP_mono (fun a s' q u1 u2 => hR _ _ (q ⟨by omega, by omega⟩)) p⟩⟩⟩⟩⟩
  · obtain ⟨n, p⟩ := (p1 c).1 c1
    refine ⟨z80, fun b1 => ⟨z80, fun b2 => ⟨⟨⟨b1, b2⟩, hz⟩, n, mkP_mono (fun a s' q u => hR _ _ (q u)) p⟩⟩⟩
  · obtain ⟨n, p⟩ := (p1 c).2 c1
    refine ⟨z80, fun b1 => ⟨⟨b1, hz⟩, n, idP_mono (fun a s' q u => hR _ _ (q u)) p⟩⟩
def cM_X3_doesAct : Sp MS := atR 0 (a1 sX3_doesAct)
theorem qM_X3_doesAct {M : XI} {rc rs pc pc2 : Nat} (d : xl_Ca M pc mX3_doesAct pc2) : cOk encM bdM M rc rs pc pc2 2 cM_X3_doesAct := cSame mX3_doesAct_ok vX3_doesAct d mcl rfl lenM recM
end
-- 9849.sg
section
/-! ===== texts: what reading an event leaves alone; events of the model ===== -/
def eF (s s' : MS) : Prop := (∀ k, k ≠ 5 → s'.1 k = s.1 k) ∧ (∀ a, a ≠ 5 → a ≠ 6 → a ≠ 7 → a ≠ 8 → a ≠ 11 → s'.2 a = s.2 a) ∧ s.1 5 - 1 ≤ s'.1 5 ∧ s'.1 5 ≤ max (s.1 5) (s.1 6)
theorem rF.e {s t u : MS} (h : rF s t) (g : eF t u) : eF s u := ⟨fun k hk => (g.1 k hk).trans (h.1 k hk), fun a p q r t v => (g.2.1 a p q r t v).trans (h.2.1 a p q r t v), by have := h.2.2; have := g.2.2; omega, by have h2 := h.2.2; have g2 := g.2.2; rw [h.1 6 (by decide)] at g2; omega⟩
/-- an event read -/
def rs1 (s : MS) (r : Int × MS) : Prop := eF s r.2 ∧ (r.1 = 1 → s.1 5 < r.2.1 5)
theorem rs1.b {s t : MS} {r : Int × MS} (h : rF s t) (g : rs1 t r) : rs1 s r := ⟨h.e g.1, fun q => by have := h.2.2.1; have := g.2 q; omega⟩
theorem reE5_f (p : Int × MS) (k any : Int) : eF p.2 (reE5 p k any).2 ∧ ((reE5 p k any).1 = 1 → p.2.1 5 ≤ (reE5 p k any).2.1 5 ∧ 0 ≤ p.1) := by
  have h : rF p.2 (st8 p k) := rF_A (by decide)
  have e5 : (st8 p k).1 5 = p.2.1 5 := rfl
  unfold reE5 reF
  split
  · exact ⟨h.e ⟨fun _ _ => rfl, fun _ _ _ _ _ _ => rfl, by show (st8 p k).1 5 - 1 ≤ (st8 p k).1 5; omega, by show (st8 p k).1 5 ≤ _; omega⟩, fun q => absurd q (by show ¬ (0 : Int) = 1; decide)⟩
  · split
    · exact ⟨h.e ⟨fun j hj => mS_ne hj, fun _ _ _ _ _ _ => rfl, by show (st8 p k).1 5 - 1 ≤ (st8 p k).1 5 - 1; omega, by show (st8 p k).1 5 - 1 ≤ _; omega⟩, fun q => absurd q (by show ¬ (0 : Int) = 1; decide)⟩
    · exact ⟨h.e ⟨fun _ _ => rfl, fun _ _ _ _ _ _ => rfl, by show (st8 p k).1 5 - 1 ≤ (st8 p k).1 5; omega, by show (st8 p k).1 5 ≤ _; omega⟩, fun _ => ⟨by show p.2.1 5 ≤ (st8 p k).1 5; omega, by omega⟩⟩
theorem reE4_f (s : MS) (k v any : Int) : rs1 s (reE4 s k v any) := by
  unfold reE4
  split
  · have f := reE5_f (-1, s) k any
    exact ⟨f.1, fun q => absurd (f.2 q).2 (by show ¬ (0 : Int) ≤ -1; decide)⟩
  · have f := reE5_f (gDg s 1) k any
    have d := dg_b s (n := 1) (by decide)
    exact ⟨d.2.1.e f.1, fun q => by have := (f.2 q).1; have := d.2.2 (f.2 q).2; omega⟩
theorem gRe_f (s : MS) (k any : Int) : rs1 s (gRe s k any) := by
  have h3 : ∀ sd p, rs1 p.2 (reE3 sd p k any) := fun sd p => rs1.b (rF_A (by decide)) (reE4_f _ k p.1 any)
  have h2 : ∀ p, rs1 p.2 (reE2 p k any) := fun p => by
    unfold reE2
    split
    · exact h3 p.1 (-1, p.2)
    · exact rs1.b (dg_b p.2 (n := 2) (by decide)).2.1 (h3 p.1 (gDg p.2 2))
  have h1 : ∀ p, rs1 p.2 (reE1 p k any) := fun p => by
    have a : rF p.2 (st6 p k) := rF_A (by decide)
    unfold reE1
    split
    · exact rs1.b a (h2 (-1, st6 p k))
    · exact rs1.b a (rs1.b (gTk_f (st6 p k) 7 (by decide)).2.1 (h2 (gTk (st6 p k) 7)))
  have h0 : ∀ p, rs1 p.2 (reE0 p k any) := fun p => by
    have a : rF p.2 (st5 p k) := rF_A (by decide)
    unfold reE0
    split
    · exact rs1.b a (h1 (-1, st5 p k))
    · exact rs1.b a (rs1.b (dg_b (st5 p k) (n := 4) (by decide)).2.1 (h1 (gDg (st5 p k) 4)))
  exact rs1.b (gTk_f s 5 (by decide)).2.1 (h0 (gTk s 5))
end
-- 98491.sh
section
/-! ===== texts: the entries read ===== -/
/-- what stands in the rows of keys and sources behind a reading -/
def en1r (k any : Int) (s : MS) (r : Int × MS) : Prop := r.2.2 5 = s.2 5 ∧ ∃ v, r.2.2 8 = xup (s.2 8) k.toNat v ∧ (r.1 = 1 → any = 0 → mSrc r.2 v)
theorem en1r.b {k any : Int} {s t : MS} {r : Int × MS} (h5 : t.2 5 = s.2 5) (h8 : t.2 8 = s.2 8) (g : en1r k any t r) : en1r k any s r := by
  obtain ⟨a, v, b, c⟩ := g
  exact ⟨a.trans h5, v, by rw [b, h8], c⟩
theorem reE5_e (p : Int × MS) (k any : Int) : en1r k any p.2 (reE5 p k any) := by
  unfold reE5 reF
  split
  · exact ⟨rfl, p.1, rfl, fun q => absurd q (by show ¬ (0 : Int) = 1; decide)⟩
  · split
    · exact ⟨rfl, p.1, rfl, fun q => absurd q (by show ¬ (0 : Int) = 1; decide)⟩
    · rename_i c
      exact ⟨rfl, p.1, rfl, fun _ q => Decidable.byContradiction (fun h => c ⟨q, h⟩)⟩
theorem reE4_e (s : MS) (k v any : Int) : en1r k any s (reE4 s k v any) := by
  unfold reE4
  split
  · exact reE5_e (-1, s) k any
  · exact en1r.b (t := (gDg s 1).2) (by rw [gDg_2]) (by rw [gDg_2]) (reE5_e (gDg s 1) k any)
theorem reE1_e (p : Int × MS) (k any : Int) : en1r k any p.2 (reE1 p k any) := by
  have h3 : ∀ sd p, en1r k any p.2 (reE3 sd p k any) := fun sd p => en1r.b (t := st7 p.2 k (if sd = 1 then -p.1 else p.1)) rfl rfl (reE4_e _ k p.1 any)
  have h2 : ∀ p, en1r k any p.2 (reE2 p k any) := fun p => by
    unfold reE2
    split
    · exact h3 p.1 (-1, p.2)
    · exact en1r.b (t := (gDg p.2 2).2) (by rw [gDg_2]) (by rw [gDg_2]) (h3 p.1 (gDg p.2 2))
  unfold reE1
  split
  · exact en1r.b (t := st6 p k) rfl rfl (h2 (-1, st6 p k))
  · exact en1r.b (s := p.2) (t := (gTk (st6 p k) 7).2) (by rw [gTk_2]; rfl) (by rw [gTk_2]; rfl) (h2 (gTk (st6 p k) 7))
theorem reE1_n (s : MS) (k any : Int) : (reE1 (-1, s) k any).1 = 0 := by
  unfold reE1
  rw [if_pos (show (-1 : Int) < 0 by decide)]
  unfold reE2
  rw [if_pos (show (-1 : Int) < 0 by decide)]
  unfold reE3 reE4
  rw [if_pos (show (-1 : Int) < 0 by decide)]
  unfold reE5 reF
  rw [if_pos (show (-1 : Int) < 0 by decide)]
theorem gRe_e (s : MS) (k any : Int) : (∃ w, (gRe s k any).2.2 5 = xup (s.2 5) k.toNat w ∧ ((gRe s k any).1 = 1 → 0 ≤ w ∧ w ≤ 5)) ∧ ∃ v, (gRe s k any).2.2 8 = xup (s.2 8) k.toNat v ∧ ((gRe s k any).1 = 1 → any = 0 → mSrc (gRe s k any).2 v) := by
  have f := gTk_f s 5 (by decide)
  have hl : slI 5 = 6 := by decide
  have f2 := gTk_2 s 5
  unfold gRe
  generalize gTk s 5 = p at f f2 ⊢
  unfold reE0
  split
  · obtain ⟨a, v, b, c⟩ := reE1_e (-1, st5 p k) k any
    refine ⟨⟨p.1, by rw [a]; show xup (p.2.2 5) _ _ = _; rw [f2], fun q => ?_⟩, v, by rw [b]; show xup (p.2.2 8) _ _ = _; rw [f2], c⟩
    rw [reE1_n] at q
    omega
  · obtain ⟨a, v, b, c⟩ := reE1_e (gDg (st5 p k) 4) k any
    refine ⟨⟨p.1, by rw [a, gDg_2]; show xup (p.2.2 5) _ _ = _; rw [f2], fun q => ?_⟩, v, by rw [b, gDg_2]; show xup (p.2.2 8) _ _ = _; rw [f2], c⟩
    have := f.2.2.2
    omega
end
-- 98492.si
section
/-! ===== texts: events of the model, reading ===== -/
-- X3_events: heads [11, 72]
def tX3_events : Nat → Blk MS := fun pc => bif Nat.blt pc 72 then (bif Nat.blt pc 38 then (bif Nat.blt pc 11 then (bif Nat.beq pc 0 then (oAld 0 <| oI 0 <| oPut (fpM) 3 0 <| oAld 0 <| oC1 (cM_X3_reads) <| oI 0 <| oIst 1 <| oM [true, true, false, false] (oTo 11)) else oNo) else (bif Nat.beq pc 11 then (oAld 0 <| oGet (fgM) 3 5 <| oAld 0 <| oGet (fgM) 3 6 <| oCGe 44 <| oAld 0 <| oIld 1 <| oI 0 <| oC3 (cM_X3_readsEvent) <| oZNe 38 <| oI (-1) <| oAld 0 <| oGet (fgM) 3 5 <| oSub <| oIret) else oNo)) else (bif Nat.blt pc 44 then (bif Nat.beq pc 38 then (oInc 1 1 <| oM [true, true, false, false] (oTo 11)) else oNo) else (bif Nat.blt pc 62 then (bif Nat.beq pc 44 then (oAld 0 <| oI 0 <| oI 6 <| oC3 (cM_X3_of) <| oIld 1 <| oAdd <| oI 160 <| oCLe 62 <| oI (-3) <| oIret) else oNo) else (bif Nat.beq pc 62 then (oAld 0 <| oI 0 <| oI 3 <| oC3 (cM_X3_copies) <| oI 0 <| oIst 2 <| oI 0 <| oIst 3 <| oM [true, true, true, true] (oTo 72)) else oNo)))) else (bif Nat.blt pc 116 then (bif Nat.blt pc 115 then (bif Nat.beq pc 72 then (oIld 3 <| oIld 1 <| oCGe 127 <| oIld 2 <| oAld 0 <| oI 0 <| oAld 0 <| oGet (fgM) 3 13 <| oIld 3 <| oIa (agM) <| oAld 0 <| oGet (fgM) 3 14 <| oIld 3 <| oIa (agM) <| oAld 0 <| oGet (fgM) 3 15 <| oIld 3 <| oIa (agM) <| oAld 0 <| oGet (fgM) 3 16 <| oIld 3 <| oIa (agM) <| oC6 (cM_X3_comes) <| oI 2 <| oCGe 115 <| oI 1 <| oTo 116) else oNo) else (bif Nat.beq pc 115 then (oI 0 <| oTo 116) else oNo)) else (bif Nat.blt pc 127 then (bif Nat.beq pc 116 then (oC1 (cM_X3_flag) <| oAdd <| oIst 2 <| oInc 3 1 <| oM [true, true, true, true] (oTo 72)) else oNo) else (bif Nat.blt pc 147 then (bif Nat.beq pc 127 then (oAld 0 <| oI 0 <| oAld 0 <| oI 3 <| oI 7 <| oC3 (cM_X3_of) <| oC3 (cM_X3_entersSince) <| oIld 1 <| oZLe 147 <| oAld 0 <| oC1 (cM_X3_lays) <| oTo 147) else oNo) else (bif Nat.beq pc 147 then (oIld 2 <| oIret) else oNo))))
theorem tX3_events_ok : ∀ pc, bOk (encM) (bdM) mX3_events 0 0 pc (tX3_events pc) := fun pc => (tNode (tNode (tNode (tLeaf (okAldn iX3_events_0 rfl <| okIc iX3_events_1 <| okPut (vFpM) iX3_events_2 <| okAldn iX3_events_5 rfl <| okC1 (qM_X3_reads iX3_events_6) <| okIc iX3_events_9 <| okIstn iX3_events_10 rfl (by decide) <| okM (okTo (tl rfl)))) (tLeaf (okAldn iX3_events_11 rfl <| okGet (vFgM) iX3_events_12 <| okAldn iX3_events_15 rfl <| okGet (vFgM) iX3_events_16 <| okCGe (tl rfl) iX3_events_19 <| okAldn iX3_events_22 rfl <| okIldn iX3_events_23 rfl <| okIc iX3_events_24 <| okC3 (qM_X3_readsEvent iX3_events_25) <| okZNe (tl rfl) iX3_events_28 <| okIc iX3_events_31 <| okAldn iX3_events_32 rfl <| okGet (vFgM) iX3_events_33 <| okSub iX3_events_36 <| okIret iX3_events_37 rfl))) (tNode (tLeaf (okInc iX3_events_38 (by decide) <| okGotoM (tl rfl) iX3_events_41)) (tNode (tLeaf (okAldn iX3_events_44 rfl <| okIc iX3_events_45 <| okBi iX3_events_46 (by decide) <| okC3 (qM_X3_of iX3_events_48) <| okIldn iX3_events_51 rfl <| okAdd iX3_events_52 <| okSi iX3_events_53 (by decide) <| okCLe (tl rfl) iX3_events_56 <| okBi iX3_events_59 (by decide) <| okIret iX3_events_61 rfl)) (tLeaf (okAldn iX3_events_62 rfl <| okIc iX3_events_63 <| okIc iX3_events_64 <| okC3 (qM_X3_copies iX3_events_65) <| okIc iX3_events_68 <| okIstn iX3_events_69 rfl (by decide) <| okIc iX3_events_70 <| okIstn iX3_events_71 rfl (by decide) <| okM (okTo (tl rfl))))))) (tNode (tNode (tLeaf (okIldn iX3_events_72 rfl <| okIldn iX3_events_73 rfl <| okCGe (tl rfl) iX3_events_74 <| okIldn iX3_events_77 rfl <| okAldn iX3_events_78 rfl <| okIc iX3_events_79 <| okAldn iX3_events_80 rfl <| okGet (vFgM) iX3_events_81 <| okIldn iX3_events_84 rfl <| okIa (vAgM) iX3_events_85 <| okAldn iX3_events_86 rfl <| okGet (vFgM) iX3_events_87 <| okIldn iX3_events_90 rfl <| okIa (vAgM) iX3_events_91 <| okAldn iX3_events_92 rfl <| okGet (vFgM) iX3_events_93 <| okIldn iX3_events_96 rfl <| okIa (vAgM) iX3_events_97 <| okAldn iX3_events_98 rfl <| okGet (vFgM) iX3_events_99 <| okIldn iX3_events_102 rfl <| okIa (vAgM) iX3_events_103 <| okC6 (qM_X3_comes iX3_events_104) <| okIc iX3_events_107 <| okCGe (tl rfl) iX3_events_108 <| okIc iX3_events_111 <| okGoto (tl rfl) iX3_events_112)) (tLeaf (okIc iX3_events_115 <| okTo (tl rfl)))) (tNode (tLeaf (okC1 (qM_X3_flag iX3_events_116) <| okAdd iX3_events_119 <| okIstn iX3_events_120 rfl (by decide) <| okInc iX3_events_121 (by decide) <| okGotoM (tl rfl) iX3_events_124)) (tNode (tLeaf (okAldn iX3_events_127 rfl <| okIc iX3_events_128 <| okAldn iX3_events_129 rfl <| okIc iX3_events_130 <| okBi iX3_events_131 (by decide) <| okC3 (qM_X3_of iX3_events_133) <| okC3 (qM_X3_entersSince iX3_events_136) <| okIldn iX3_events_139 rfl <| okZLe (tl rfl) iX3_events_140 <| okAldn iX3_events_143 rfl <| okC1 (qM_X3_lays iX3_events_144) <| okTo (tl rfl))) (tLeaf (okIldn iX3_events_147 rfl <| okIret iX3_events_148 rfl)))))) pc
def reL : Nat → Int → MS → Int × Int × MS
  | 0, n, s => (1, n, s)
  | m + 1, n, s => if s.1 6 ≤ s.1 5 then (1, n, s) else if (gRe s n 0).1 = 0 then (0, n, (gRe s n 0).2) else reL m (n + 1) (gRe s n 0).2
theorem gd.e {s s' : MS} (h : gd s) (g : eF s s') (h5 : 0 ≤ s'.1 5) : gd s' := by
  obtain ⟨a, b, c, d⟩ := h
  have e6 := g.1 6 (by decide)
  have e3 := g.2.1 3 (by decide) (by decide) (by decide) (by decide) (by decide)
  have e5 := g.2.2
  refine ⟨h5, by omega, by omega, ?_⟩
  rw [mg_cong e3]
  exact d
theorem X3_events_r {K : KM} {Pt : MS → Prop} : ∀ (m : Nat) (n : Int) (s : MS), gd s → 0 ≤ n → n ≤ s.1 5 → s.1 6 ≤ s.1 5 + m → ((reL m n s).1 = 0 → K [pI (-1 - (reL m n s).2.2.1 5)] (reL m n s).2.2) → ((reL m n s).1 ≠ 0 → wX encM bdM mX3_events 0 0 K Pt 44 [some (pR 0), some (pI (reL m n s).2.1), none, none] [] (reL m n s).2.2) → wX encM bdM mX3_events 0 0 K Pt 11 [some (pR 0), some (pI n), none, none] [] s := by
  intro m
  induction m with
  | zero =>
    intro n s hg h0 h1 hm k0 k1
    refine wx_J [11, 44] 9 tX3_events_ok rfl (fun J hR hJ => ?_)
    have g := k1 (by show (1 : Int) ≠ 0; decide)
    obtain ⟨g1, g2, g3, g4⟩ := hg
    repeat' (first | (refine And.intro ?_ ?_) | (intro hq; first | (exact absurd hq (by omega)) | skip))
    all_goals first | omega | exact hJ _ _ _ _ g
  | succ m ih =>
    intro n s hg h0 h1 hm k0 k1
    refine wx_J [11, 44] 9 tX3_events_ok rfl (fun J hR hJ => ?_)
    rw [reL] at k0 k1
    by_cases c : s.1 6 ≤ s.1 5
    · rw [if_pos c] at k0 k1
      have g := k1 (by show (1 : Int) ≠ 0; decide)
      obtain ⟨g1, g2, g3, g4⟩ := hg
      repeat' (first | (refine And.intro ?_ ?_) | (intro hq; first | (exact absurd hq (by omega)) | skip))
      all_goals first | omega | exact hJ _ _ _ _ g
    · rw [if_neg c] at k0 k1
      have f := gRe_f s n 0
      have r01 := gRe_01 s n 0
      have e6 := f.1.1 6 (by decide)
      have e5 := f.1.2.2
      by_cases c2 : (gRe s n 0).1 = 0
      · rw [if_pos c2] at k0 k1
        have hK := k0 rfl
        obtain ⟨g1, g2, g3, g4⟩ := hg
        repeat' (first | (refine And.intro ?_ ?_) | (intro hq; first | (exact absurd hq (by omega)) | skip))
        all_goals first | omega | exact hR _ _ hK | contradiction | exact Or.inl rfl
      · rw [if_neg c2] at k0 k1
        have f2 := f.2 (by omega)
        have g := ih (n + 1) _ (hg.e f.1 (by have := hg.1; omega)) (by omega) (by omega) (by omega) k0 k1
        obtain ⟨g1, g2, g3, g4⟩ := hg
        repeat' (first | (refine And.intro ?_ ?_) | (intro hq; first | (exact absurd hq (by omega)) | skip))
        all_goals first | omega | exact hJ _ _ _ _ g | contradiction | exact Or.inl rfl
end
-- 98493.sj
section
/-! ===== texts: events of the model, played ===== -/
def clP (Q : Int → MS → Prop) : Nat → Int → Int → MS → Prop
  | 0, _, t, s => Q t s
  | m + 1, k, t, s => ((0 ≤ s.2 8 k.toNat ∧ s.2 8 k.toNat ≤ 3) ∧ 0 ≤ mg s (0 * 2804 + 6) ∧ mg s (0 * 2804 + 6) ≤ 159) ∧ ∃ f, mComeP s 0 (s.2 5 k.toNat) (s.2 6 k.toNat) (s.2 7 k.toNat) (s.2 8 k.toNat) f (fun s' => clP Q m (k + 1) (t + (if mHow s 0 (s.2 6 k.toNat) < 2 then 1 else 0)) s')
def evE (n : Int) (K : KM) : Int → MS → Prop := fun t s => (0 < n → uok1 (mSince s 0 (mg s (3 * 2804 + 7))) ∧ K [pI t] (mLays (mSince s 0 (mg s (3 * 2804 + 7))))) ∧ (n ≤ 0 → K [pI t] (mSince s 0 (mg s (3 * 2804 + 7))))
theorem X3_events_e {K : KM} {Pt : MS → Prop} (n t k : Int) (hn : 0 ≤ n ∧ n ≤ 80) (ht : 0 ≤ t ∧ t ≤ 80) (s : MS) (h : evE n K t s) : wX encM bdM mX3_events 0 0 K Pt 127 [some (pR 0), some (pI n), some (pI t), some (pI k)] [] s := by
  refine wx_J [] 9 tX3_events_ok rfl (fun J hR hJ => ?_)
  obtain ⟨h1, h2⟩ := h
  exact ⟨⟨by omega, by omega⟩, fun _ => ⟨⟨by omega, by omega⟩, ⟨⟨by omega, by omega⟩, fun c => hR _ _ (h2 c), fun c => ⟨(h1 c).1, hR _ _ (h1 c).2⟩⟩⟩⟩
theorem X3_events_p {K : KM} {Pt : MS → Prop} (n : Int) (hn : 0 ≤ n ∧ n ≤ 80) : ∀ (m : Nat) (k t : Int) (s : MS), 0 ≤ k → k + m = n → 0 ≤ t → t ≤ k → clP (evE n K) m k t s → wX encM bdM mX3_events 0 0 K Pt 72 [some (pR 0), some (pI n), some (pI t), some (pI k)] [] s := by
  intro m
  induction m with
  | zero =>
    intro k t s h0 h1 h2 h3 h
    refine wx_J [72, 127] 9 tX3_events_ok rfl (fun J hR hJ => ?_)
    have g := X3_events_e (Pt := Pt) n t k hn (by omega) s h
    exact ⟨⟨⟨by omega, by omega⟩, ⟨by omega, by omega⟩⟩, fun _ => hJ _ _ _ _ g, fun q => absurd q (by omega)⟩
  | succ m ih =>
    intro k t s h0 h1 h2 h3 h
    refine wx_J [72, 127] 9 tX3_events_ok rfl (fun J hR hJ => ?_)
    obtain ⟨⟨hr, h6⟩, f, hc⟩ := h
    have z80 : 0 ≤ k ∧ k < ((80 : Nat) : Int) := ⟨h0, by omega⟩
    refine ⟨⟨⟨by omega, by omega⟩, ⟨by omega, by omega⟩⟩, fun q => absurd q (by omega), fun _ => ?_⟩
    refine ⟨z80, fun b1 => ⟨z80, fun b2 => ⟨z80, fun b3 => ⟨z80, fun b4 => ⟨⟨⟨by omega, by omega⟩, hr, ⟨b1, b2, b3⟩, h6⟩, f, mComeP_mono (fun s' z u1 u2 => ?_) hc⟩⟩⟩⟩⟩
    refine ⟨⟨⟨by omega, by omega⟩, ⟨by omega, by omega⟩⟩, fun c => ?_, fun c => ?_⟩
    · rw [if_neg (by omega)] at z
      exact ⟨Or.inl rfl, hJ _ _ _ _ (ih (k + 1) (t + 0) s' (by omega) (by omega) (by omega) (by omega) z)⟩
    · rw [if_pos c] at z
      exact ⟨Or.inr rfl, hJ _ _ _ _ (ih (k + 1) (t + 1) s' (by omega) (by omega) (by omega) (by omega) z)⟩
def evM (n : Int) (s : MS) (K : KM) : Prop := (160 < mg s (0 * 2804 + 6) + n → K [pI (-3)] s) ∧ (mg s (0 * 2804 + 6) + n ≤ 160 → clP (evE n K) n.toNat 0 0 (mCopy s 0 3))
theorem X3_events_m {K : KM} {Pt : MS → Prop} (n : Int) (hn : 0 ≤ n ∧ n ≤ 80) (s : MS) (h6 : 0 ≤ mg s (0 * 2804 + 6) ∧ mg s (0 * 2804 + 6) ≤ 160) (h : evM n s K) : wX encM bdM mX3_events 0 0 K Pt 44 [some (pR 0), some (pI n), none, none] [] s := by
  refine wx_J [72] 9 tX3_events_ok rfl (fun J hR hJ => ?_)
  refine ⟨⟨by omega, by omega⟩, fun hz => ⟨⟨⟨by omega, by omega⟩, ⟨by omega, by omega⟩⟩, fun c => ?_, fun c => hR _ _ (h.1 c)⟩⟩
  exact ⟨⟨⟨by omega, by omega⟩, by omega, by omega⟩, hJ _ _ _ _ (X3_events_p n hn n.toNat 0 0 _ (by omega) (by omega) (by omega) (by omega) (h.2 c))⟩
/-- what reading leaves alone -/
def eG (s s' : MS) : Prop := (∀ k, k ≠ 5 → s'.1 k = s.1 k) ∧ ∀ a, a ≠ 5 → a ≠ 6 → a ≠ 7 → a ≠ 8 → a ≠ 11 → s'.2 a = s.2 a
theorem eG.trans {s t u : MS} (h : eG s t) (g : eG t u) : eG s u := ⟨fun k hk => (g.1 k hk).trans (h.1 k hk), fun a p q r t v => (g.2 a p q r t v).trans (h.2 a p q r t v)⟩
theorem eF.g {s t : MS} (h : eF s t) : eG s t := ⟨h.1, h.2.1⟩
theorem eG.same {s : MS} : eG s s := ⟨fun _ _ => rfl, fun _ _ _ _ _ _ => rfl⟩
theorem reL_f : ∀ (m : Nat) (n : Int) (s : MS), gd s → 0 ≤ n → n ≤ s.1 5 → eG s (reL m n s).2.2 ∧ 0 ≤ (reL m n s).2.1 ∧ (reL m n s).2.1 ≤ 80
  | 0, n, s, hg, h0, h1 => ⟨eG.same, h0, by have := hg.2.1; show n ≤ 80; omega⟩
  | m + 1, n, s, hg, h0, h1 => by
    have h80 := hg.2.1
    have hg0 := hg.1
    rw [reL]
    split
    · exact ⟨eG.same, h0, by show n ≤ 80; omega⟩
    · have f := gRe_f s n 0
      have r01 := gRe_01 s n 0
      split
      · exact ⟨f.1.g, h0, by show n ≤ 80; omega⟩
      · have f2 := f.2 (by omega)
        have g := reL_f m (n + 1) _ (hg.e f.1 (by omega)) (by omega) (by omega)
        exact ⟨f.1.g.trans g.1, g.2⟩
/-- entries read -/
def rdE (n : Int) (s : MS) : Prop := ∀ j : Int, 0 ≤ j → j < n → (0 ≤ s.2 5 j.toNat ∧ s.2 5 j.toNat ≤ 5) ∧ 0 ≤ s.2 8 j.toNat ∧ s.2 8 j.toNat ≤ 3
theorem reL_e : ∀ (m : Nat) (n : Int) (s : MS), gd s → mg s 0 ≤ 4 → 0 ≤ n → n ≤ s.1 5 → rdE n s → (reL m n s).1 ≠ 0 → rdE (reL m n s).2.1 (reL m n s).2.2
  | 0, n, s, hg, h4, h0, h1, he, _ => he
  | m + 1, n, s, hg, h4, h0, h1, he, hq => by
    have h80 := hg.2.1
    have hg0 := hg.1
    rw [reL] at hq ⊢
    by_cases c : s.1 6 ≤ s.1 5
    · rw [if_pos c]
      exact he
    · rw [if_neg c] at hq ⊢
      have f := gRe_f s n 0
      have r01 := gRe_01 s n 0
      obtain ⟨⟨w, e5, w5⟩, v, e8, v8⟩ := gRe_e s n 0
      by_cases c2 : (gRe s n 0).1 = 0
      · rw [if_pos c2] at hq
        exact absurd rfl hq
      · rw [if_neg c2] at hq ⊢
        have c3 : (gRe s n 0).1 = 1 := by omega
        have f2 := f.2 c3
        have w6 := w5 c3
        have v9 := v8 c3 rfl
        clear w5 v8
        have e0 : mg (gRe s n 0).2 0 = mg s 0 := mg_cong (f.1.2.1 3 (by decide) (by decide) (by decide) (by decide) (by decide)) 0
        generalize gRe s n 0 = p at *
        have v0 : 0 ≤ v ∧ v < mg p.2 0 := v9
        refine reL_e m (n + 1) _ (hg.e f.1 (by omega)) (by omega) (by omega) (by omega) (fun j j0 j1 => ?_) hq
        rw [e5, e8]
        by_cases q : j = n
        · subst q
          rw [xup_e, xup_e]
          exact ⟨w6, v0.1, by omega⟩
        · have x5 : xup (s.2 5) n.toNat w j.toNat = s.2 5 j.toNat := if_neg (by omega)
          have x8 : xup (s.2 8) n.toNat v j.toNat = s.2 8 j.toNat := if_neg (by omega)
          rw [x5, x8]
          exact he j j0 (by omega)
def gRd (s : MS) : MS := mReads (mS s 0 0)
def sX3_events : MS → KM → Prop := fun s K => ((0 ≤ s.1 4 ∧ s.1 4 ≤ 80) ∧ 0 ≤ mg s 0 ∧ 0 ≤ mg s (0 * 2804 + 6) ∧ mg s (0 * 2804 + 6) ≤ 160) ∧ ((reL 80 0 (gRd s)).1 = 0 → K [pI (-1 - (reL 80 0 (gRd s)).2.2.1 5)] (reL 80 0 (gRd s)).2.2) ∧ ((reL 80 0 (gRd s)).1 ≠ 0 → evM (reL 80 0 (gRd s)).2.1 (reL 80 0 (gRd s)).2.2 K)
theorem gRd_gd {s : MS} (h4 : 0 ≤ s.1 4 ∧ s.1 4 ≤ 80) (h0 : 0 ≤ mg s 0) : gd (gRd s) := ⟨by show (0 : Int) ≤ 0; decide, by show (0 : Int) ≤ 80; decide, by show s.1 4 ≤ 80; omega, h0⟩
theorem mX3_events_ok : mOk encM bdM mX3_events (atR 0 (a0 sX3_events)) := by
  refine mOVa0 kX3_events (fun _ => rfl) (fun s K h hb => wx_J [11] 9 tX3_events_ok rfl (fun J hR hJ => ?_))
  obtain ⟨⟨h4, h0, h6⟩, k0, k1⟩ := h
  have hg := gRd_gd h4 h0
  have e5 : (gRd s).1 5 = 0 := rfl
  have e6 : (gRd s).1 6 = s.1 4 := rfl
  have f := reL_f 80 0 (gRd s) hg (by omega) (by omega)
  have g6 : mg (reL 80 0 (gRd s)).2.2 (0 * 2804 + 6) = mg s (0 * 2804 + 6) := mg_cong (f.1.2 3 (by decide) (by decide) (by decide) (by decide) (by decide)) _
  exact ⟨⟨by omega, by omega⟩, hJ _ _ _ _ (X3_events_r 80 0 (gRd s) hg (by omega) (by omega) (by omega) k0 (fun c => X3_events_m _ f.2 _ (by omega) (k1 c)))⟩
end
-- 98494.sk
section
/-! ===== texts: day of the model ===== -/
theorem rF.toE {s t : MS} (h : rF s t) : eF s t := ⟨h.1, h.2.1, by have := h.2.2; omega, h.2.2.2⟩
theorem raE3_r (p : Int × MS) (k : Int) : rF p.2 (raE3 p k).2 := rF_A (by decide)
theorem raE2_r (p : Int × MS) (k a : Int) : rF p.2 (raE2 p k a).2 := by
  have h : rF p.2 (st8 p k) := rF_A (by decide)
  unfold raE2
  split
  · exact h.trans (raE3_r (-1, st8 p k) k)
  · split
    · exact h.trans ((dg_b (st8 p k) (n := 5) (by decide)).2.1.trans (raE3_r (gDg (st8 p k) 5) k))
    · exact h.trans (raE3_r (0, st8 p k) k)
theorem raE1_r (s : MS) (k a : Int) : rF s (raE1 s k a).2 := by
  unfold raE1
  split
  · exact raE2_r (-1, s) k a
  · exact (dg_b s (n := 1) (by decide)).2.1.trans (raE2_r (gDg s 1) k a)
theorem raE1_n (s : MS) (k a : Int) (h : a < 0) : (raE1 s k a).1 = 0 := by
  unfold raE1
  rw [if_pos h]
  unfold raE2
  rw [if_pos (show (-1 : Int) < 0 by decide)]
  unfold raE3
  rw [if_pos (show (-1 : Int) < 0 by decide)]
theorem raE3_01 (p : Int × MS) (k : Int) : (raE3 p k).1 = 0 ∨ (raE3 p k).1 = 1 := by
  unfold raE3
  dsimp only
  split
  · exact Or.inl rfl
  · exact Or.inr rfl
theorem gRa_01 (s : MS) (k : Int) : (gRa s k).1 = 0 ∨ (gRa s k).1 = 1 := by
  unfold gRa raE0
  split
  · exact gRe_01 _ _ _
  · unfold raE1 raE2
    repeat' split
    all_goals exact raE3_01 _ _
theorem gRa_f (s : MS) (k : Int) : rs1 s (gRa s k) := by
  have f := gTk_f s 8 (by decide)
  unfold gRa
  generalize gTk s 8 = p at f ⊢
  obtain ⟨f1, f2, f3, f4⟩ := f
  have h : rF p.2 (st11 p k) := rF_A (by decide)
  have e5 : (st11 p k).1 5 = p.2.1 5 := rfl
  unfold raE0
  split
  · exact rs1.b (f2.trans h) (gRe_f (st11 p k) k 1)
  · have r := raE1_r (st11 p k) k p.1
    refine ⟨((f2.trans h).trans r).toE, fun q => ?_⟩
    have r5 := r.2.2.1
    by_cases c : p.1 < 0
    · rw [raE1_n _ _ _ c] at q
      exact absurd q (by decide)
    · have := f3 (by omega)
      omega
-- X3_day: heads [11, 51]
def tX3_day : Nat → Blk MS := fun pc => bif Nat.blt pc 51 then (bif Nat.blt pc 37 then (bif Nat.blt pc 11 then (bif Nat.beq pc 0 then (oAld 0 <| oI 0 <| oPut (fpM) 3 0 <| oAld 0 <| oC1 (cM_X3_reads) <| oI 0 <| oIst 1 <| oM [true, true, false] (oTo 11)) else oNo) else (bif Nat.beq pc 11 then (oAld 0 <| oGet (fgM) 3 5 <| oAld 0 <| oGet (fgM) 3 6 <| oCGe 43 <| oAld 0 <| oIld 1 <| oC2 (cM_X3_readsAct) <| oZNe 37 <| oI (-1) <| oAld 0 <| oGet (fgM) 3 5 <| oSub <| oIret) else oNo)) else (bif Nat.blt pc 43 then (bif Nat.beq pc 37 then (oInc 1 1 <| oM [true, true, false] (oTo 11)) else oNo) else (bif Nat.beq pc 43 then (oAld 0 <| oI 0 <| oI 3 <| oC3 (cM_X3_copies) <| oI 0 <| oIst 2 <| oM [true, true, true] (oTo 51)) else oNo))) else (bif Nat.blt pc 85 then (bif Nat.blt pc 70 then (bif Nat.beq pc 51 then (oIld 2 <| oIld 1 <| oCGe 70 <| oAld 0 <| oIld 2 <| oC2 (cM_X3_doesAct) <| oZLt 70 <| oInc 2 1 <| oM [true, true, true] (oTo 51)) else oNo) else (bif Nat.beq pc 70 then (oAld 0 <| oI 0 <| oPut (fpM) 3 1 <| oAld 0 <| oIld 2 <| oIld 1 <| oCGe 85 <| oI 1 <| oTo 86) else oNo)) else (bif Nat.blt pc 86 then (bif Nat.beq pc 85 then (oI 0 <| oTo 86) else oNo) else (bif Nat.blt pc 121 then (bif Nat.beq pc 86 then (oC1 (cM_X3_flag) <| oI2l <| oC2 (cM_X3_enters) <| oAld 0 <| oAld 0 <| oI 0 <| oI 7 <| oC3 (cM_X3_of) <| oAld 0 <| oI 3 <| oI 7 <| oC3 (cM_X3_of) <| oSubW <| oI2l <| oC2 (cM_X3_enters) <| oIld 2 <| oZLe 121 <| oAld 0 <| oC1 (cM_X3_lays) <| oTo 121) else oNo) else (bif Nat.beq pc 121 then (oIld 2 <| oIret) else oNo))))
theorem tX3_day_ok : ∀ pc, bOk (encM) (bdM) mX3_day 0 0 pc (tX3_day pc) := fun pc => (tNode (tNode (tNode (tLeaf (okAldn iX3_day_0 rfl <| okIc iX3_day_1 <| okPut (vFpM) iX3_day_2 <| okAldn iX3_day_5 rfl <| okC1 (qM_X3_reads iX3_day_6) <| okIc iX3_day_9 <| okIstn iX3_day_10 rfl (by decide) <| okM (okTo (tl rfl)))) (tLeaf (okAldn iX3_day_11 rfl <| okGet (vFgM) iX3_day_12 <| okAldn iX3_day_15 rfl <| okGet (vFgM) iX3_day_16 <| okCGe (tl rfl) iX3_day_19 <| okAldn iX3_day_22 rfl <| okIldn iX3_day_23 rfl <| okC2 (qM_X3_readsAct iX3_day_24) <| okZNe (tl rfl) iX3_day_27 <| okIc iX3_day_30 <| okAldn iX3_day_31 rfl <| okGet (vFgM) iX3_day_32 <| okSub iX3_day_35 <| okIret iX3_day_36 rfl))) (tNode (tLeaf (okInc iX3_day_37 (by decide) <| okGotoM (tl rfl) iX3_day_40)) (tLeaf (okAldn iX3_day_43 rfl <| okIc iX3_day_44 <| okIc iX3_day_45 <| okC3 (qM_X3_copies iX3_day_46) <| okIc iX3_day_49 <| okIstn iX3_day_50 rfl (by decide) <| okM (okTo (tl rfl)))))) (tNode (tNode (tLeaf (okIldn iX3_day_51 rfl <| okIldn iX3_day_52 rfl <| okCGe (tl rfl) iX3_day_53 <| okAldn iX3_day_56 rfl <| okIldn iX3_day_57 rfl <| okC2 (qM_X3_doesAct iX3_day_58) <| okZLt (tl rfl) iX3_day_61 <| okInc iX3_day_64 (by decide) <| okGotoM (tl rfl) iX3_day_67)) (tLeaf (okAldn iX3_day_70 rfl <| okIc iX3_day_71 <| okPut (vFpM) iX3_day_72 <| okAldn iX3_day_75 rfl <| okIldn iX3_day_76 rfl <| okIldn iX3_day_77 rfl <| okCGe (tl rfl) iX3_day_78 <| okIc iX3_day_81 <| okGoto (tl rfl) iX3_day_82))) (tNode (tLeaf (okIc iX3_day_85 <| okTo (tl rfl))) (tNode (tLeaf (okC1 (qM_X3_flag iX3_day_86) <| okI2l iX3_day_89 <| okC2 (qM_X3_enters iX3_day_90) <| okAldn iX3_day_93 rfl <| okAldn iX3_day_94 rfl <| okIc iX3_day_95 <| okBi iX3_day_96 (by decide) <| okC3 (qM_X3_of iX3_day_98) <| okAldn iX3_day_101 rfl <| okIc iX3_day_102 <| okBi iX3_day_103 (by decide) <| okC3 (qM_X3_of iX3_day_105) <| okSubW iX3_day_108 <| okI2l iX3_day_109 <| okC2 (qM_X3_enters iX3_day_110) <| okIldn iX3_day_113 rfl <| okZLe (tl rfl) iX3_day_114 <| okAldn iX3_day_117 rfl <| okC1 (qM_X3_lays iX3_day_118) <| okTo (tl rfl))) (tLeaf (okIldn iX3_day_121 rfl <| okIret iX3_day_122 rfl)))))) pc
def raL : Nat → Int → MS → Int × Int × MS
  | 0, n, s => (1, n, s)
  | m + 1, n, s => if s.1 6 ≤ s.1 5 then (1, n, s) else if (gRa s n).1 = 0 then (0, n, (gRa s n).2) else raL m (n + 1) (gRa s n).2
theorem X3_day_r {K : KM} {Pt : MS → Prop} : ∀ (m : Nat) (n : Int) (s : MS), gd s → 0 ≤ n → n ≤ s.1 5 → s.1 6 ≤ s.1 5 + m → ((raL m n s).1 = 0 → K [pI (-1 - (raL m n s).2.2.1 5)] (raL m n s).2.2) → ((raL m n s).1 ≠ 0 → wX encM bdM mX3_day 0 0 K Pt 43 [some (pR 0), some (pI (raL m n s).2.1), none] [] (raL m n s).2.2) → wX encM bdM mX3_day 0 0 K Pt 11 [some (pR 0), some (pI n), none] [] s := by
  intro m
  induction m with
  | zero =>
    intro n s hg h0 h1 hm k0 k1
    refine wx_J [11, 43] 9 tX3_day_ok rfl (fun J hR hJ => ?_)
    have g := k1 (by show (1 : Int) ≠ 0; decide)
    obtain ⟨g1, g2, g3, g4⟩ := hg
    repeat' (first | (refine And.intro ?_ ?_) | (intro hq; first | (exact absurd hq (by omega)) | skip))
    all_goals first | omega | exact hJ _ _ _ _ g
  | succ m ih =>
    intro n s hg h0 h1 hm k0 k1
    refine wx_J [11, 43] 9 tX3_day_ok rfl (fun J hR hJ => ?_)
    rw [raL] at k0 k1
    by_cases c : s.1 6 ≤ s.1 5
    · rw [if_pos c] at k0 k1
      have g := k1 (by show (1 : Int) ≠ 0; decide)
      obtain ⟨g1, g2, g3, g4⟩ := hg
      repeat' (first | (refine And.intro ?_ ?_) | (intro hq; first | (exact absurd hq (by omega)) | skip))
      all_goals first | omega | exact hJ _ _ _ _ g
    · rw [if_neg c] at k0 k1
      have f := gRa_f s n
      have r01 := gRa_01 s n
      have e6 := f.1.1 6 (by decide)
      have e5 := f.1.2.2
      by_cases c2 : (gRa s n).1 = 0
      · rw [if_pos c2] at k0 k1
        have hK := k0 rfl
        obtain ⟨g1, g2, g3, g4⟩ := hg
        repeat' (first | (refine And.intro ?_ ?_) | (intro hq; first | (exact absurd hq (by omega)) | skip))
        all_goals first | omega | exact hR _ _ hK | contradiction
      · rw [if_neg c2] at k0 k1
        have f2 := f.2 (by omega)
        have g := ih (n + 1) _ (hg.e f.1 (by have := hg.1; omega)) (by omega) (by omega) (by omega) k0 k1
        obtain ⟨g1, g2, g3, g4⟩ := hg
        repeat' (first | (refine And.intro ?_ ?_) | (intro hq; first | (exact absurd hq (by omega)) | skip))
        all_goals first | omega | exact hJ _ _ _ _ g | contradiction
theorem raL_f : ∀ (m : Nat) (n : Int) (s : MS), gd s → 0 ≤ n → n ≤ s.1 5 → eG s (raL m n s).2.2 ∧ 0 ≤ (raL m n s).2.1 ∧ (raL m n s).2.1 ≤ 80
  | 0, n, s, hg, h0, h1 => ⟨eG.same, h0, by have := hg.2.1; show n ≤ 80; omega⟩
  | m + 1, n, s, hg, h0, h1 => by
    have h80 := hg.2.1
    have hg0 := hg.1
    rw [raL]
    split
    · exact ⟨eG.same, h0, by show n ≤ 80; omega⟩
    · have f := gRa_f s n
      have r01 := gRa_01 s n
      split
      · exact ⟨f.1.g, h0, by show n ≤ 80; omega⟩
      · have f2 := f.2 (by omega)
        have g := raL_f m (n + 1) _ (hg.e f.1 (by omega)) (by omega) (by omega)
        exact ⟨f.1.g.trans g.1, g.2⟩
/-- an act done: the answer and the state -/
def doP (k : Int) (s : MS) (Q : Int → MS → Prop) : Prop := ((0 ≤ k ∧ k < 80) ∧ 0 ≤ mg s 0 ∧ mg s 0 ≤ 4) ∧ (s.2 11 k.toNat = 0 → ∃ n, evP s (s.2 5 k.toNat) (s.2 6 k.toNat) (s.2 7 k.toNat) (s.2 8 k.toNat) n (fun a s' => xB a → Q a s')) ∧ (s.2 11 k.toNat ≠ 0 → (s.2 11 k.toNat = 1 → ∃ n, mkP s (s.2 8 k.toNat) (s.2 6 k.toNat) n (fun a s' => xB a → Q a s')) ∧ (s.2 11 k.toNat ≠ 1 → ∃ n, idP s (s.2 8 k.toNat) n (fun a s' => xB a → Q a s')))
theorem doP_mono {k : Int} {s : MS} {Q R : Int → MS → Prop} (h : ∀ a s', xB a → Q a s' → R a s') (p : doP k s Q) : doP k s R := by
  obtain ⟨p0, p1, p2⟩ := p
  refine ⟨p0, fun c => ?_, fun c => ⟨fun c1 => ?_, fun c1 => ?_⟩⟩
  · obtain ⟨n, q⟩ := p1 c
    exact ⟨n, evP_mono (fun a s' r u => h a s' u (r u)) q⟩
  · obtain ⟨n, q⟩ := (p2 c).1 c1
    exact ⟨n, mkP_mono (fun a s' r u => h a s' u (r u)) q⟩
  · obtain ⟨n, q⟩ := (p2 c).2 c1
    exact ⟨n, idP_mono (fun a s' r u => h a s' u (r u)) q⟩
def daP (Q : Int → MS → Prop) : Nat → Int → MS → Prop
  | 0, d, s => Q d s
  | m + 1, d, s => doP d s (fun a s' => (a < 0 → Q d s') ∧ (0 ≤ a → daP Q m (d + 1) s'))
def gDyE (s : MS) (b : Int) : MS := mEn (mEn (mS s 1 0) b) (wI (mg s (0 * 2804 + 7) - mg s (3 * 2804 + 7)))
def daE (n : Int) (K : KM) : Int → MS → Prop := fun d s => (0 < d → uok1 (gDyE s (if d < n then 1 else 0)) ∧ K [pI d] (mLays (gDyE s (if d < n then 1 else 0)))) ∧ (d ≤ 0 → K [pI d] (gDyE s (if d < n then 1 else 0)))
theorem X3_day_e {K : KM} {Pt : MS → Prop} (n d : Int) (hn : 0 ≤ n ∧ n ≤ 80) (hd : 0 ≤ d ∧ d ≤ n) (s : MS) (h : daE n K d s) : wX encM bdM mX3_day 0 0 K Pt 70 [some (pR 0), some (pI n), some (pI d)] [] s := by
  refine wx_J [] 9 tX3_day_ok rfl (fun J hR hJ => ?_)
  obtain ⟨h1, h2⟩ := h
  have x0 : xB 0 := ⟨by omega, by omega⟩
  have x1 : xB 1 := ⟨by omega, by omega⟩
  have xd : xB d := ⟨by omega, by omega⟩
  refine ⟨x0, ⟨xd, ⟨by omega, by omega⟩⟩, fun c => ?_, fun c => ?_⟩
  · rw [if_neg (by omega)] at h1 h2
    exact ⟨Or.inl rfl, x0, ⟨x0, by show (0 : Int) ≤ 0; omega, by show (0 : Int) < 16; omega⟩, ⟨by omega, by omega⟩, fun _ => ⟨⟨by omega, by omega⟩, fun _ hw => ⟨hw, ⟨hw, by show (0 : Int) ≤ 0 + 1; omega, by show (0 : Int) + 1 < 16; omega⟩, ⟨xd, fun c => hR _ _ (h2 c), fun c => ⟨(h1 c).1, hR _ _ (h1 c).2⟩⟩⟩⟩⟩
  · rw [if_pos c] at h1 h2
    exact ⟨Or.inr rfl, x1, ⟨x1, by show (0 : Int) ≤ 0; omega, by show (0 : Int) < 16; omega⟩, ⟨by omega, by omega⟩, fun _ => ⟨⟨by omega, by omega⟩, fun _ hw => ⟨hw, ⟨hw, by show (0 : Int) ≤ 0 + 1; omega, by show (0 : Int) + 1 < 16; omega⟩, ⟨xd, fun c => hR _ _ (h2 c), fun c => ⟨(h1 c).1, hR _ _ (h1 c).2⟩⟩⟩⟩⟩
theorem X3_day_p {K : KM} {Pt : MS → Prop} (n : Int) (hn : 0 ≤ n ∧ n ≤ 80) : ∀ (m : Nat) (d : Int) (s : MS), 0 ≤ d → d + m = n → daP (daE n K) m d s → wX encM bdM mX3_day 0 0 K Pt 51 [some (pR 0), some (pI n), some (pI d)] [] s := by
  intro m
  induction m with
  | zero =>
    intro d s h0 h1 h
    refine wx_J [51, 70] 9 tX3_day_ok rfl (fun J hR hJ => ?_)
    have g := X3_day_e (Pt := Pt) n d hn (by omega) s h
    exact ⟨⟨⟨by omega, by omega⟩, ⟨by omega, by omega⟩⟩, fun _ => hJ _ _ _ _ g, fun q => absurd q (by omega)⟩
  | succ m ih =>
    intro d s h0 h1 h
    refine wx_J [51, 70] 9 tX3_day_ok rfl (fun J hR hJ => ?_)
    refine ⟨⟨⟨by omega, by omega⟩, ⟨by omega, by omega⟩⟩, fun q => absurd q (by omega), fun _ => ?_⟩
    refine doP_mono (fun a s' xa z => ?_) h
    refine ⟨xa, fun c => ?_, fun c => ?_⟩
    · first | exact hJ _ _ _ _ (X3_day_e (Pt := Pt) n d hn (by omega) s' (z.1 c)) | exact hJ _ _ _ _ (ih (d + 1) s' (by omega) (by omega) (z.2 c))
    · first | exact hJ _ _ _ _ (ih (d + 1) s' (by omega) (by omega) (z.2 c)) | exact hJ _ _ _ _ (X3_day_e (Pt := Pt) n d hn (by omega) s' (z.1 c))
def sX3_day : MS → KM → Prop := fun s K => ((0 ≤ s.1 4 ∧ s.1 4 ≤ 80) ∧ 0 ≤ mg s 0) ∧ ((raL 80 0 (gRd s)).1 = 0 → K [pI (-1 - (raL 80 0 (gRd s)).2.2.1 5)] (raL 80 0 (gRd s)).2.2) ∧ ((raL 80 0 (gRd s)).1 ≠ 0 → daP (daE (raL 80 0 (gRd s)).2.1 K) (raL 80 0 (gRd s)).2.1.toNat 0 (mCopy (raL 80 0 (gRd s)).2.2 0 3))
theorem X3_day_m {K : KM} {Pt : MS → Prop} (n : Int) (hn : 0 ≤ n ∧ n ≤ 80) (s : MS) (h : daP (daE n K) n.toNat 0 (mCopy s 0 3)) : wX encM bdM mX3_day 0 0 K Pt 43 [some (pR 0), some (pI n), none] [] s := by
  refine wx_J [51] 9 tX3_day_ok rfl (fun J hR hJ => ?_)
  exact ⟨⟨⟨by omega, by omega⟩, by omega, by omega⟩, hJ _ _ _ _ (X3_day_p n hn n.toNat 0 _ (by omega) (by omega) h)⟩
theorem mX3_day_ok : mOk encM bdM mX3_day (atR 0 (a0 sX3_day)) := by
  refine mOVa0 kX3_day (fun _ => rfl) (fun s K h hb => wx_J [11] 9 tX3_day_ok rfl (fun J hR hJ => ?_))
  obtain ⟨⟨h4, h0⟩, k0, k1⟩ := h
  have hg := gRd_gd h4 h0
  have e5 : (gRd s).1 5 = 0 := rfl
  have e6 : (gRd s).1 6 = s.1 4 := rfl
  have f := raL_f 80 0 (gRd s) hg (by omega) (by omega)
  exact ⟨⟨by omega, by omega⟩, hJ _ _ _ _ (X3_day_r 80 0 (gRd s) hg (by omega) (by omega) (by omega) k0 (fun c => X3_day_m _ f.2 _ (k1 c)))⟩
end
-- 985.rq
section
/-! ===== what gets ripe where a row lies on the messages: it ends all the same ===== -/
theorem send_k {s : MS} {d kd i : Int} (hd : dOk d) (hm : 0 ≤ mg s (d * 2804 + 7)) (hi : 0 ≤ i ∧ i ≤ 160) (hk : 0 ≤ kd ∧ kd ≤ 3) (hq : 0 ≤ mg s (rw_ d i + 0) ∧ mg s (rw_ d i + 0) ≤ 5) : (mg s (d * 2804 + 7) % 60 ≠ 0 → mg (mSend s d kd i) (d * 2804 + 1484) = mg s (d * 2804 + 1484) ∧ mg (mSend s d kd i) (d * 2804 + 1486) = mg s (d * 2804 + 1486)) ∧ (mg s (d * 2804 + 7) % 60 = 0 → mg (mSend s d kd i) (d * 2804 + 1484) = kd ∧ (i < 160 → mg (mSend s d kd i) (d * 2804 + 1486) = mg s (rw_ d i + 1)) ∧ (i = 160 → mg (mSend s d kd i) (d * 2804 + 1486) = kd)) := by
  have hd0 : 0 ≤ d := hd.1
  have e0 : 0 ≤ mg (mSend4 s d kd i) ((d * 2804 + 364 + 7 * i) + 0) ∧ mg (mSend4 s d kd i) ((d * 2804 + 364 + 7 * i) + 0) ≤ 5 := send4_key hd hm hi hk hq
  have up : ∀ x, (x = d * 2804 + 1484 ∨ x = d * 2804 + 1486) → mg (mSend s d kd i) x = mg (sdL (d * 2804 + 1484 + 6 * Int.tmod (mg s (d * 2804 + 7)) 60) d i 5 0 (mP s (d * 2804 + 1484 + 6 * Int.tmod (mg s (d * 2804 + 7)) 60) kd)) x := fun x hx => by
    unfold mSend
    rw [mg_ne (by omega) (by omega) (by omega), mInc_ne (by omega) (by omega) (by omega)]
    unfold mSend4
    rw [mInc_ne (by omega) (by omega) (by omega), mInc_ne (by omega) (by omega) (by omega)]
  rw [up _ (Or.inl rfl), up _ (Or.inr rfl)]
  have ht : Int.tmod (mg s (d * 2804 + 7)) 60 = mg s (d * 2804 + 7) % 60 := Int.tmod_eq_emod_of_nonneg hm
  rw [ht]
  have hl : 0 ≤ mg s (d * 2804 + 7) % 60 := by omega
  generalize mg s (d * 2804 + 7) % 60 = w at hl ⊢
  refine ⟨fun h => ?_, fun h => ?_⟩
  · rw [sdL_fr _ d i (by omega) 5 0 _ _ (by decide) (by omega) (by omega), sdL_fr _ d i (by omega) 5 0 _ _ (by decide) (by omega) (by omega), mg_ne (by omega) (by omega) (by omega), mg_ne (by omega) (by omega) (by omega)]
    exact ⟨rfl, rfl⟩
  · subst h
    have hr : rw_ d i = d * 2804 + 364 + 7 * i := rfl
    rw [show d * 2804 + 1484 + 6 * 0 = d * 2804 + 1484 by omega]
    have c2 : mg (sdL (d * 2804 + 1484) d i 5 0 (mP s (d * 2804 + 1484) kd)) (d * 2804 + 1486) = mg (mP (mP s (d * 2804 + 1484) kd) (d * 2804 + 1484 + 1 + 0) (mg (mP s (d * 2804 + 1484) kd) (rw_ d i + 0))) (rw_ d i + (0 + 1)) := by
      show mg (sdL (d * 2804 + 1484) d i 3 (0 + 1 + 1) (mP (mP (mP s (d * 2804 + 1484) kd) (d * 2804 + 1484 + 1 + 0) (mg (mP s (d * 2804 + 1484) kd) (rw_ d i + 0))) (d * 2804 + 1484 + 1 + (0 + 1)) (mg (mP (mP s (d * 2804 + 1484) kd) (d * 2804 + 1484 + 1 + 0) (mg (mP s (d * 2804 + 1484) kd) (rw_ d i + 0))) (rw_ d i + (0 + 1))))) (d * 2804 + 1486) = _
      rw [sdL_fr _ d i (by omega) 3 _ _ _ (by decide) (by omega) (by omega), show d * 2804 + 1484 + 1 + (0 + 1) = d * 2804 + 1486 by omega]
      exact mg_eq
    refine ⟨?_, fun h => ?_, fun h => ?_⟩
    · rw [sdL_fr _ d i (by omega) 5 0 _ _ (by decide) (by omega) (by omega)]
      exact mg_eq
    · rw [c2, mg_ne (by omega) (by omega) (by omega), mg_ne (by omega) (by omega) (by omega)]
      rfl
    · subst h
      rw [c2, show rw_ d 160 + (0 + 1) = d * 2804 + 1484 + 1 + 0 by omega, mg_eq, show rw_ d 160 + 0 = d * 2804 + 1484 by omega]
      exact mg_eq
theorem nd_pos {s : MS} {d : Int} : ∀ (k i : Nat), i < k → ¬ mDone s d (i : Int) → 1 ≤ nd s d k
  | 0, _, hi, _ => absurd hi (Nat.not_lt_zero _)
  | k + 1, i, hi, h => by
    rw [nd]
    by_cases e : i = k
    · subst e
      rw [if_neg h]; omega
    · have := nd_pos k i (by omega) h
      omega
/-- the last row is no trouble any more -/
def iq (d : Int) (s : MS) : Prop := (mg s (d * 2804 + 1486) < s.1 10 ∨ (mg s (d * 2804 + 1486) = s.1 10 ∧ mg s (d * 2804 + 1484) ≤ s.1 11)) ∨ (mg s (d * 2804 + 1486) ≤ s.1 10 ∧ 1 ≤ mg s (d * 2804 + 7) % 60 ∧ mg s (d * 2804 + 7) % 60 ≤ 2 + 2 * s.1 11)
theorem d160 {d : Int} {s : MS} : mDone s d 160 ↔ (mg s (d * 2804 + 1486) < s.1 10 ∨ (mg s (d * 2804 + 1486) = s.1 10 ∧ mg s (d * 2804 + 1484) ≤ s.1 11)) := by
  have e2 : d * 2804 + 364 + 7 * 160 + 2 = d * 2804 + 1486 := by omega
  have e0 : d * 2804 + 364 + 7 * 160 + 0 = d * 2804 + 1484 := by omega
  show (mg s (d * 2804 + 364 + 7 * 160 + 2) < s.1 10 ∨ (mg s (d * 2804 + 364 + 7 * 160 + 2) = s.1 10 ∧ mg s (d * 2804 + 364 + 7 * 160 + 0) ≤ s.1 11)) ↔ _
  rw [e2, e0]
/-- one step -/
theorem ri_step {d b i : Int} {s : MS} (hd : dOk d) (hV : dV d 161 b s) (hb : b + 2 ≤ 1000000) (hr : ∀ j, 0 ≤ j → j < 160 → mg s (rw_ d j + 1) ≤ mg s (rw_ d j + 2)) (h0 : 0 ≤ i) (hi : i < mg s (d * 2804 + 5)) (hdn : ¬ mDone s d i) : mRiP s d i ∧ dF d s (mRi1 s d i) ∧ dV d 161 (b + 2) (mRi1 s d i) ∧ (i < 160 → nd (mRi1 s d i) d 160 < nd s d 160) ∧ (i = 160 → mDone (mRi1 s d i) d 160 ∧ (iq d s → nd (mRi1 s d i) d 160 ≤ nd s d 160)) ∧ (iq d s ∨ i = 160 → iq d (mRi1 s d i)) := by
  have hd0 : 0 ≤ d := hd.1
  have h5 := hV.1
  have h7 := hV.2.1
  obtain ⟨t1, t2, t3⟩ := hV.take hd (by omega) (by omega) ⟨h0, hi⟩
  have k0 := hV.2.2.2.1 i h0 hi
  have k1 := t1.2.2.2.1 i h0 (by rw [t2.five hd]; exact hi)
  obtain ⟨u1, u2, u3⟩ := t1.send (kd := 1) hd (by omega) (by omega) ⟨by decide, by decide⟩ ⟨h0, by rw [t2.five hd]; exact hi⟩
  have F : dF d s (mRi1 s d i) := ((t2.trans u2).S (Or.inl rfl)).S (Or.inr (Or.inl rfl))
  have V : dV d 161 (b + 1 + 1) (mRi1 s d i) := u1
  -- what the take and the send do to the last row
  have a7 : (mg (mTake s d i) (d * 2804 + 7) = mg s (d * 2804 + 7) ∧ mg (mTake s d i) (d * 2804 + 1484) = mg s (d * 2804 + 1484) ∧ mg (mTake s d i) (d * 2804 + 1486) = mg s (d * 2804 + 1486)) ∨ (mg (mTake s d i) (d * 2804 + 7) = mg s (d * 2804 + 7) + 1 ∧ (mg s (d * 2804 + 7) % 60 ≠ 0 → mg (mTake s d i) (d * 2804 + 1484) = mg s (d * 2804 + 1484) ∧ mg (mTake s d i) (d * 2804 + 1486) = mg s (d * 2804 + 1486)) ∧ (mg s (d * 2804 + 7) % 60 = 0 → mg (mTake s d i) (d * 2804 + 1484) = 3 ∧ (i < 160 → mg (mTake s d i) (d * 2804 + 1486) = mg s (rw_ d i + 1)) ∧ (i = 160 → mg (mTake s d i) (d * 2804 + 1486) = 3))) := by
    unfold mTake
    by_cases hc : 0 < mg s ((d * 2804 + 364 + 7 * i) + 6)
    · rw [if_pos hc]
      obtain ⟨-, g2, -⟩ := send_ok (kd := 3) hd h7.1 ⟨h0, by omega⟩ ⟨by decide, by decide⟩ k0 (by omega)
      rw [wI_id ⟨by omega, by omega⟩] at g2
      exact Or.inr ⟨g2, send_k hd h7.1 ⟨h0, by omega⟩ ⟨by decide, by decide⟩ k0⟩
    · rw [if_neg hc]
      exact Or.inl ⟨rfl, rfl, rfl⟩
  have t7 := t1.2.1
  obtain ⟨-, g7, -⟩ := send_ok (kd := 1) hd t7.1 ⟨h0, by omega⟩ ⟨by decide, by decide⟩ k1 (by omega)
  rw [wI_id ⟨by omega, by omega⟩] at g7
  have gk := send_k (kd := 1) hd t7.1 ⟨h0, by omega⟩ ⟨by decide, by decide⟩ k1
  have q10 : (mRi1 s d i).1 10 = mg (mSend (mTake s d i) d 1 i) (rw_ d i + 2) := rfl
  have q11 : (mRi1 s d i).1 11 = mg (mSend (mTake s d i) d 1 i) (rw_ d i + 0) := rfl
  have q7 : mg (mRi1 s d i) (d * 2804 + 7) = mg (mSend (mTake s d i) d 1 i) (d * 2804 + 7) := rfl
  have q84 : mg (mRi1 s d i) (d * 2804 + 1484) = mg (mSend (mTake s d i) d 1 i) (d * 2804 + 1484) := rfl
  have q86 : mg (mRi1 s d i) (d * 2804 + 1486) = mg (mSend (mTake s d i) d 1 i) (d * 2804 + 1486) := rfl
  have kk2 := u1.2.2.2.1 i h0 (by rw [u2.five hd, t2.five hd]; exact hi)
  refine ⟨⟨t3, u3, by rw [F.five hd]; omega⟩, F, V.more (by omega), fun hlt => ?_, fun he => ?_, ?_⟩
  · have e10 : (mRi1 s d i).1 10 = mg s (rw_ d i + 2) := (u2.row hd (q := 2) ⟨h0, by omega⟩ ⟨by decide, by decide⟩).trans (t2.row hd (q := 2) ⟨h0, by omega⟩ ⟨by decide, by decide⟩)
    have e11 : (mRi1 s d i).1 11 = mg s (rw_ d i + 0) := (u2.row hd (q := 0) ⟨h0, by omega⟩ ⟨by decide, by decide⟩).trans (t2.row hd (q := 0) ⟨h0, by omega⟩ ⟨by decide, by decide⟩)
    have hnd : ¬ (mg s (rw_ d i + 2) < s.1 10) ∧ ¬ (mg s (rw_ d i + 2) = s.1 10 ∧ mg s (rw_ d i + 0) ≤ s.1 11) := not_or.mp hdn
    have key : ∀ j : Nat, j < 160 → (mDone s d (j : Int) ∨ (j : Int) = i) → mDone (mRi1 s d i) d (j : Int) := by
      intro j hj hD
      have a2 := F.row hd (i := (j : Int)) (q := 2) ⟨by omega, by omega⟩ ⟨by decide, by decide⟩
      have a0 := F.row hd (i := (j : Int)) (q := 0) ⟨by omega, by omega⟩ ⟨by decide, by decide⟩
      show mg (mRi1 s d i) (rw_ d j + 2) < (mRi1 s d i).1 10 ∨ (mg (mRi1 s d i) (rw_ d j + 2) = (mRi1 s d i).1 10 ∧ mg (mRi1 s d i) (rw_ d j + 0) ≤ (mRi1 s d i).1 11)
      rw [a2, a0, e10, e11]
      rcases hD with hD | hD
      · have hD : mg s (rw_ d j + 2) < s.1 10 ∨ (mg s (rw_ d j + 2) = s.1 10 ∧ mg s (rw_ d j + 0) ≤ s.1 11) := hD
        omega
      · rw [hD]
        exact Or.inr ⟨Eq.refl _, Int.le_refl _⟩
    exact nd_lt (s := s) (s' := mRi1 s d i) (d := d) 160 i.toNat (by omega) (by rw [show ((i.toNat : Nat) : Int) = i by omega]; exact hdn) (key i.toNat (by omega) (Or.inr (by omega))) (fun j hj hD => key j hj (Or.inl hD))
  · subst he
    have r0 : rw_ d 160 + 0 = d * 2804 + 1484 := by show d * 2804 + 364 + 7 * 160 + 0 = _; omega
    have r2 : rw_ d 160 + 2 = d * 2804 + 1486 := by show d * 2804 + 364 + 7 * 160 + 2 = _; omega
    rw [r2, ← q86] at q10
    rw [r0, ← q84] at q11
    have hdn2 : ¬ (mg s (d * 2804 + 1486) < s.1 10 ∨ (mg s (d * 2804 + 1486) = s.1 10 ∧ mg s (d * 2804 + 1484) ≤ s.1 11)) := fun q => hdn (d160.mpr q)
    refine ⟨d160.mpr (Or.inr ⟨q10.symm, by rw [q11]; exact Int.le_refl _⟩), fun hq => ?_⟩
    rw [r0] at k0
    have i2 := hq.resolve_left hdn2
    have hk5 : s.1 11 ≤ 4 := by omega
    have nw : mg (mRi1 s d 160) (d * 2804 + 1484) = mg s (d * 2804 + 1484) ∧ mg (mRi1 s d 160) (d * 2804 + 1486) = mg s (d * 2804 + 1486) := by
      rcases a7 with ⟨a, b1, c⟩ | ⟨a, b1, c⟩
      · have z := gk.1 (by rw [a]; omega)
        exact ⟨z.1.trans b1, z.2.trans c⟩
      · have z := gk.1 (by rw [a]; omega)
        have y := b1 (by omega)
        exact ⟨z.1.trans y.1, z.2.trans y.2⟩
    rw [nw.2] at q10
    rw [nw.1] at q11
    refine nd_le 160 (fun j hj hD => ?_)
    have a2 := F.row hd (i := (j : Int)) (q := 2) ⟨by omega, by omega⟩ ⟨by decide, by decide⟩
    have a0 := F.row hd (i := (j : Int)) (q := 0) ⟨by omega, by omega⟩ ⟨by decide, by decide⟩
    have hD : mg s (rw_ d j + 2) < s.1 10 ∨ (mg s (rw_ d j + 2) = s.1 10 ∧ mg s (rw_ d j + 0) ≤ s.1 11) := hD
    show mg (mRi1 s d 160) (rw_ d j + 2) < (mRi1 s d 160).1 10 ∨ (mg (mRi1 s d 160) (rw_ d j + 2) = (mRi1 s d 160).1 10 ∧ mg (mRi1 s d 160) (rw_ d j + 0) ≤ (mRi1 s d 160).1 11)
    rw [a2, a0, q10, q11]
    omega
  · intro hq
    by_cases he : i = 160
    · subst he
      have r0 : rw_ d 160 + 0 = d * 2804 + 1484 := by show d * 2804 + 364 + 7 * 160 + 0 = _; omega
      have r2 : rw_ d 160 + 2 = d * 2804 + 1486 := by show d * 2804 + 364 + 7 * 160 + 2 = _; omega
      rw [r2, ← q86] at q10
      rw [r0, ← q84] at q11
      exact Or.inl (Or.inr ⟨q10.symm, by rw [q11]; exact Int.le_refl _⟩)
    · have hq := hq.resolve_right he
      have e10 : (mRi1 s d i).1 10 = mg s (rw_ d i + 2) := (u2.row hd (q := 2) ⟨h0, by omega⟩ ⟨by decide, by decide⟩).trans (t2.row hd (q := 2) ⟨h0, by omega⟩ ⟨by decide, by decide⟩)
      have e11 : (mRi1 s d i).1 11 = mg s (rw_ d i + 0) := (u2.row hd (q := 0) ⟨h0, by omega⟩ ⟨by decide, by decide⟩).trans (t2.row hd (q := 0) ⟨h0, by omega⟩ ⟨by decide, by decide⟩)
      have f1 : mg (mTake s d i) (rw_ d i + 1) = mg s (rw_ d i + 1) := t2.row hd (q := 1) ⟨h0, by omega⟩ ⟨by decide, by decide⟩
      have hfl := hr i h0 (by omega)
      have hnd : ¬ (mg s (rw_ d i + 2) < s.1 10) ∧ ¬ (mg s (rw_ d i + 2) = s.1 10 ∧ mg s (rw_ d i + 0) ≤ s.1 11) := not_or.mp hdn
      have hq1 : (mg s (d * 2804 + 1486) < s.1 10 ∨ (mg s (d * 2804 + 1486) = s.1 10 ∧ mg s (d * 2804 + 1484) ≤ s.1 11)) ∨ (mg s (d * 2804 + 1486) ≤ s.1 10 ∧ 1 ≤ mg s (d * 2804 + 7) % 60 ∧ mg s (d * 2804 + 7) % 60 ≤ 2 + 2 * s.1 11) := hq
      unfold iq
      rw [e10, e11, q7, q84, q86]
      generalize mg (mSend (mTake s d i) d 1 i) (d * 2804 + 7) = Z7 at g7 ⊢
      generalize mg (mSend (mTake s d i) d 1 i) (d * 2804 + 1484) = Z84 at gk ⊢
      generalize mg (mSend (mTake s d i) d 1 i) (d * 2804 + 1486) = Z86 at gk ⊢
      rw [f1] at gk
      generalize mg (mTake s d i) (d * 2804 + 7) = Y7 at g7 gk a7 t7
      generalize mg (mTake s d i) (d * 2804 + 1484) = Y84 at gk a7
      generalize mg (mTake s d i) (d * 2804 + 1486) = Y86 at gk a7
      generalize mg s (d * 2804 + 7) = X7 at *
      generalize mg s (d * 2804 + 1484) = X84 at *
      generalize mg s (d * 2804 + 1486) = X86 at *
      generalize mg s (rw_ d i + 0) = KE at *
      generalize mg s (rw_ d i + 1) = FI at *
      generalize mg s (rw_ d i + 2) = LA at *
      generalize s.1 10 = D at *
      generalize s.1 11 = E at *
      clear u3 t3 F V t2 u2
      omega
end
-- 986.rs
section
/-! ===== what gets ripe, where 161 rows stand; the progress rises; an event joins ===== -/
theorem nu_ex : ∃ f : MS → Int → Nat, ∀ s d, f s d = nd s d 160 := ⟨_, fun _ _ => rfl⟩
noncomputable def nu : MS → Int → Nat := Classical.choose nu_ex
theorem nu_eq (s : MS) (d : Int) : nu s d = nd s d 160 := Classical.choose_spec nu_ex s d
theorem nu_k (s : MS) (d : Int) : nu s d ≤ 160 := by rw [nu_eq]; exact nd_k s d 160
theorem nu_pos {s : MS} {d i : Int} (h0 : 0 ≤ i) (h1 : i < 160) (h : ¬ mDone s d i) : 1 ≤ nu s d := by
  rw [nu_eq]
  exact nd_pos (s := s) (d := d) 160 i.toNat (by omega) (by rw [show ((i.toNat : Nat) : Int) = i by omega]; exact h)
theorem ri_s {d b i : Int} {s : MS} (hd : dOk d) (hV : dV d 161 b s) (hb : b + 2 ≤ 1000000) (hr : ∀ j, 0 ≤ j → j < 160 → mg s (rw_ d j + 1) ≤ mg s (rw_ d j + 2)) (h0 : 0 ≤ i) (hi : i < mg s (d * 2804 + 5)) (hdn : ¬ mDone s d i) : mRiP s d i ∧ dF d s (mRi1 s d i) ∧ dV d 161 (b + 2) (mRi1 s d i) ∧ (i < 160 → nu (mRi1 s d i) d < nu s d) ∧ (i = 160 → mDone (mRi1 s d i) d 160 ∧ (iq d s → nu (mRi1 s d i) d ≤ nu s d)) ∧ (iq d s ∨ i = 160 → iq d (mRi1 s d i)) := by
  rw [nu_eq, nu_eq]
  exact ri_step hd hV hb hr h0 hi hdn
theorem rrB {d wa : Int} {K : MS → Prop} (hd : dOk d) : ∀ (m : Nat) (b : Int) (s : MS), dV d 161 b s → b + 2 * m ≤ 1000000 → (∀ j, 0 ≤ j → j < 160 → mg s (rw_ d j + 1) ≤ mg s (rw_ d j + 2)) → iq d s → 2 * nu s d + (if mDone s d 160 then 0 else 1) ≤ m → (∀ s', dF d s s' → dV d 161 (b + 2 * m) s' → K s') → rrP d wa K m (mFirstR s d wa) s
  | 0, b, s, hV, hb, hr, hI, hc, k => by
    refine ⟨?_, k s dF.same (hV.more (by omega))⟩
    rcases firstR_sp (wa := wa) hV.1.1 with h | h
    · exact h
    · exfalso
      have h5 := hV.1
      by_cases e : mFirstR s d wa = 160
      · have := h.2.2.2.2
        rw [e] at this
        rw [if_neg this] at hc
        omega
      · have := nu_pos (s := s) (d := d) h.1 (by omega) h.2.2.2.2
        omega
  | m + 1, b, s, hV, hb, hr, hI, hc, k => by
    refine ⟨fun _ => k s dF.same (hV.more (by omega)), fun h0 => ?_⟩
    rcases firstR_sp (wa := wa) hV.1.1 with h | h
    · exact absurd h (by omega)
    generalize mFirstR s d wa = i at h h0
    have h5 := hV.1
    obtain ⟨g1, g2, g3, g4, g5, g6⟩ := ri_s hd hV (by omega) hr h0 h.2.1 h.2.2.2.2
    refine ⟨g1, rrB hd m (b + 2) _ g3 (by omega) (fun j j0 j1 => by rw [g2.row hd ⟨j0, j1⟩ ⟨by decide, by decide⟩, g2.row hd ⟨j0, j1⟩ ⟨by decide, by decide⟩]; exact hr j j0 j1) (g6 (Or.inl hI)) ?_ (fun s' hF hV' => k s' (g2.trans hF) (hV'.more (by omega)))⟩
    by_cases e : i = 160
    · have z := (g5 e).2 hI
      rw [if_pos (g5 e).1]
      have hd1 := h.2.2.2.2
      rw [e] at hd1
      rw [if_neg hd1] at hc
      omega
    · have z := g4 (by omega)
      split <;> omega
theorem rrA {d wa : Int} {K : MS → Prop} (hd : dOk d) : ∀ (m : Nat) (b : Int) (s : MS), dV d 161 b s → b + 2 * m ≤ 1000000 → (∀ j, 0 ≤ j → j < 160 → mg s (rw_ d j + 1) ≤ mg s (rw_ d j + 2)) → 2 * nu s d + 323 ≤ m → (∀ s', dF d s s' → dV d 161 (b + 2 * m) s' → K s') → rrP d wa K m (mFirstR s d wa) s
  | 0, b, s, hV, hb, hr, hc, k => absurd hc (by omega)
  | m + 1, b, s, hV, hb, hr, hc, k => by
    refine ⟨fun _ => k s dF.same (hV.more (by omega)), fun h0 => ?_⟩
    rcases firstR_sp (wa := wa) hV.1.1 with h | h
    · exact absurd h (by omega)
    generalize mFirstR s d wa = i at h h0
    have h5 := hV.1
    obtain ⟨g1, g2, g3, g4, g5, g6⟩ := ri_s hd hV (by omega) hr h0 h.2.1 h.2.2.2.2
    have hr2 : ∀ j, 0 ≤ j → j < 160 → mg (mRi1 s d i) (rw_ d j + 1) ≤ mg (mRi1 s d i) (rw_ d j + 2) := fun j j0 j1 => by
      rw [g2.row hd ⟨j0, j1⟩ ⟨by decide, by decide⟩, g2.row hd ⟨j0, j1⟩ ⟨by decide, by decide⟩]
      exact hr j j0 j1
    have n1 := nu_k (mRi1 s d i) d
    refine ⟨g1, ?_⟩
    by_cases hI : iq d (mRi1 s d i)
    · refine rrB hd m (b + 2) _ g3 (by omega) hr2 hI ?_ (fun s' hF hV' => k s' (g2.trans hF) (hV'.more (by omega)))
      by_cases e : i = 160
      · split <;> omega
      · have z := g4 (by omega)
        split <;> omega
    · have e : i ≠ 160 := fun e => hI (g6 (Or.inr e))
      have z := g4 (by omega)
      exact rrA hd m (b + 2) _ g3 (by omega) hr2 (by omega) (fun s' hF hV' => k s' (g2.trans hF) (hV'.more (by omega)))
theorem rrP_more {d wa : Int} {K : MS → Prop} : ∀ (n : Nat) (i : Int) (s : MS), rrP d wa K n i s → rrP d wa K (n + 1) i s
  | 0, i, s, h => ⟨fun _ => h.2, fun q => absurd h.1 (by omega)⟩
  | n + 1, i, s, h => ⟨h.1, fun q => ⟨(h.2 q).1, rrP_more n _ _ (h.2 q).2⟩⟩
theorem rrP_le {d wa : Int} {K : MS → Prop} {n : Nat} {i : Int} {s : MS} (h : rrP d wa K n i s) : ∀ m, n ≤ m → rrP d wa K m i s := by
  intro m hm
  induction m with
  | zero => exact (show n = 0 by omega) ▸ h
  | succ m ih =>
    by_cases e : n = m + 1
    · exact e ▸ h
    · exact rrP_more _ _ _ (ih (by omega))
/-- all rows of a desk as they should be -/
abbrev okRs (d : Int) (s : MS) : Prop := ∀ j, 0 ≤ j → j < 160 → j < mg s (d * 2804 + 5) → mg s (rw_ d j + 1) ≤ mg s (rw_ d j + 2)
theorem rr2_ok {d wa n b : Int} {s : MS} {K : MS → Prop} (hd : dOk d) (hn : n ≤ 161) (hV : dV d n b s) (hr : okRs d s) (hb : b + 1300 ≤ 1000000) (k : ∀ s', dF d s s' → dV d n (b + 1300) s' → K s') : rrP d wa K 650 (mFirstR s d wa) s := by
  have h5 := hV.1
  by_cases h : mg s (d * 2804 + 5) ≤ 160
  · have V : dV d (mg s (d * 2804 + 5)) b s := ⟨⟨h5.1, Int.le_refl _⟩, hV.2.1, hV.2.2.1, hV.2.2.2.1, fun _ j j0 j1 => hr j j0 (by omega) j1⟩
    refine rrP_le (rr_ok (n := mg s (d * 2804 + 5)) hd h (mg s (d * 2804 + 5)).toNat b s V (by omega) (nd_k _ _ _) (fun s' hF hV' => k s' hF ?_)) 650 (by omega)
    exact ⟨by rw [hF.five hd]; exact h5, ⟨hV'.2.1.1, by have := hV'.2.1.2; omega⟩, fun q q0 q1 => ⟨(hV'.2.2.1 q q0 q1).1, by have := (hV'.2.2.1 q q0 q1).2; omega⟩, hV'.2.2.2.1, fun _ => hV'.2.2.2.2 h⟩
  · have e : n = 161 := by omega
    subst e
    have n1 := nu_k s d
    exact rrA hd 650 b s hV (by omega) (fun j j0 j1 => hr j j0 j1 (by omega)) (by omega) (fun s' hF hV' => k s' hF (hV'.more (by omega)))
theorem ccP_more {d : Int} {K : MS → Prop} : ∀ (n : Nat) (i : Int) (s : MS), ccP d K n i s → ccP d K (n + 1) i s
  | 0, i, s, h => ⟨fun _ => h.2, fun q => absurd h.1 (by omega)⟩
  | n + 1, i, s, h => ⟨h.1, fun q => ⟨(h.2 q).1, ccP_more n _ _ (h.2 q).2⟩⟩
theorem dV.at {d n b : Int} {s s' : MS} (hV : dV d n b s) (hd : dOk d) (hn : n ≤ 161) (h : ∀ c, (c = 5 ∨ c = 7 ∨ (36 ≤ c ∧ c < 42) ∨ (364 ≤ c ∧ c < 1491)) → mg s' (d * 2804 + c) = mg s (d * 2804 + c)) : dV d n b s' := by
  have h5 := hV.1
  refine ⟨by rw [h 5 (by omega)]; exact hV.1, by rw [h 7 (by omega)]; exact hV.2.1, fun k k0 k1 => by rw [h (36 + k) (by omega)]; exact hV.2.2.1 k k0 k1, fun j j0 j1 => ?_, fun hn2 j j0 j1 => ?_⟩
  · rw [h 5 (by omega)] at j1
    rw [row_at, h _ (by omega), ← row_at]
    exact hV.2.2.2.1 j j0 j1
  · rw [h 5 (by omega)] at j1
    rw [row_at, row_at, h _ (by omega), h _ (by omega), ← row_at, ← row_at]
    exact hV.2.2.2.2 hn2 j j0 j1
theorem okRs.at {d n b : Int} {s s' : MS} (hr : okRs d s) (hV : dV d n b s) (hd : dOk d) (hn : n ≤ 161) (h : ∀ c, (c = 5 ∨ c = 7 ∨ (36 ≤ c ∧ c < 42) ∨ (364 ≤ c ∧ c < 1491)) → mg s' (d * 2804 + c) = mg s (d * 2804 + c)) : okRs d s' := by
  have h5 := hV.1
  intro j j0 j2 j1
  rw [h 5 (by omega)] at j1
  rw [row_at, row_at, h _ (by omega), h _ (by omega), ← row_at, ← row_at]
  exact hr j j0 j2 j1
theorem okRs.f {d : Int} {s s' : MS} (hr : okRs d s) (hd : dOk d) (h : dF d s s') : okRs d s' := by
  intro j j0 j2 j1
  rw [h.five hd] at j1
  rw [h.row hd ⟨j0, j2⟩ ⟨by decide, by decide⟩, h.row hd ⟨j0, j2⟩ ⟨by decide, by decide⟩]
  exact hr j j0 j2 j1
/-- the progress may rise -/
theorem ris_ok {d n b : Int} {s : MS} {K : MS → Prop} (hV : dV d n b s) (hr : okRs d s) (hd : dOk d) (hn : n ≤ 161) (hb : b + 2000 ≤ 1000000) (kk : ∀ s', (∀ c, 0 ≤ d * 2804 + c → hC c → c ≠ 4 → mg s' (d * 2804 + c) = mg s (d * 2804 + c)) → sF s s' → dV d n (b + 2000) s' → K s') : mRisP s d 650 K := by
  have hd0 : 0 ≤ d := hd.1
  refine ⟨fun _ => kk s (fun _ _ _ _ => rfl) sF.same (hV.more (by omega)), fun hl => ?_⟩
  have fr : ∀ x, 0 ≤ x → x ≠ d * 2804 + 4 → mg (mRise0 s d) x = mg s x := fun x hx h => mg_ne (s := s) (v := mLeast s d) (by omega) hx (fun e => h e.symm)
  have S0 : sF s (mRise0 s d) := (cF_P.s.trans (sF_S (Or.inl rfl))).trans (sF_S (Or.inr (Or.inl rfl)))
  have V : dV d n b (mRise0 s d) := hV.at hd hn (fun c hc => fr _ (by omega) (by omega))
  have R : okRs d (mRise0 s d) := hr.at hV hd hn (fun c hc => fr _ (by omega) (by omega))
  have h5 := V.1
  refine ⟨by omega, rr2_ok hd hn V R (by omega) (fun s1 F1 V1 => ⟨by rw [F1.five hd]; omega, cc_ok hd hn 650 (b + 1300) s1 V1 (by omega) (by rw [F1.five hd]; omega) (fun s2 H2 V2 => ?_)⟩)⟩
  have H := F1.hd.trans H2
  refine kk s2 (fun c c0 hc h4 => ?_) (S0.trans H.2.1) (V2.more (by omega))
  rw [H.1 c c0 hc]
  exact fr _ c0 (by omega)
theorem jF_ok {d n b i : Int} {s : MS} {K : MS → Prop} (hV : dV d n b s) (hr : okRs d s) (hd : dOk d) (hn : n ≤ 161) (hb : b ≤ 1000000) (hi : 0 ≤ i ∧ i < mg s (d * 2804 + 5)) (kk : ∀ s', dH d s s' → dV d n (b + 1) s' → okRs d s' → K s') : jnF s d i K := by
  obtain ⟨a1, a2, a3⟩ := hV.send (kd := 2) hd hn hb ⟨by decide, by decide⟩ hi
  obtain ⟨b1, b2, b3⟩ := hV.send (kd := 0) hd hn hb ⟨by decide, by decide⟩ hi
  exact ⟨fun _ => ⟨a3, kk _ a2.hd a1 (hr.f hd a2)⟩, fun _ => ⟨fun _ => ⟨b3, kk _ b2.hd b1 (hr.f hd b2)⟩, fun _ => kk s dH.same (hV.more (by omega)) hr⟩⟩
theorem jE_ok {d n b : Int} {s : MS} {K : MS → Prop} (hV : dV d n b s) (hd : dOk d) (hn : n ≤ 160) (hb : b ≤ 1000000) (hk : 0 ≤ s.2 4 0 ∧ s.2 4 0 ≤ 5) (hf : s.2 4 1 ≤ s.2 4 2) (kk : ∀ s', dH d s s' → dV d (n + 1) (b + 1) s' → okRs d s' → K s') : jnE s d K := by
  have hd0 : 0 ≤ d := hd.1
  have fr : ∀ x, 0 ≤ x → x ≠ d * 2804 + 11 → mg (mInc s (d * 2804 + 11) (if 1 < s.1 12 then 1 else 0)) x = mg s x := fun x hx h => mInc_ne (by omega) hx (fun e => h e.symm)
  have V : dV d n b (mInc s (d * 2804 + 11) (if 1 < s.1 12 then 1 else 0)) := hV.at hd (by omega) (fun c hc => fr _ (by omega) (by omega))
  have H : dH d s (mInc s (d * 2804 + 11) (if 1 < s.1 12 then 1 else 0)) := dH_c (fun c c0 hc => fr _ c0 (by rcases hc with h | h | h | h <;> omega)) cF_I (fr _ (by omega) (by omega))
  have hk1 : 0 ≤ (mInc s (d * 2804 + 11) (if 1 < s.1 12 then 1 else 0)).2 4 0 ∧ (mInc s (d * 2804 + 11) (if 1 < s.1 12 then 1 else 0)).2 4 0 ≤ 5 := hk
  have hf1 : (mInc s (d * 2804 + 11) (if 1 < s.1 12 then 1 else 0)).2 4 1 ≤ (mInc s (d * 2804 + 11) (if 1 < s.1 12 then 1 else 0)).2 4 2 := hf
  unfold jnE
  simp only []
  generalize mInc s (d * 2804 + 11) (if 1 < s.1 12 then 1 else 0) = u at V H hk1 hf1 ⊢
  obtain ⟨g1, g2, g3, g4⟩ := in_ok V hd hn hk1 hf1
  have h5 := V.1
  exact ⟨⟨by omega, by omega⟩, jF_ok g1 (fun j j0 _ j1 => (g4 j j0 j1).2) hd (by omega) hb g2 (fun s' hs hv ho => kk s' ((H.trans g3).trans hs) hv ho)⟩
theorem fresh_3 (s : MS) (k t v : Int) : (mFresh s k t v).2 3 = s.2 3 := by
  unfold mFresh
  rw [mF_3, mF_3, mF_3, mF_3, mF_3, mF_3, mF_3]
  rfl
theorem fresh_v (s : MS) (k t v : Int) : (mFresh s k t v).2 4 0 = k ∧ (mFresh s k t v).2 4 1 = t ∧ (mFresh s k t v).2 4 2 = t := by
  unfold mFresh
  refine ⟨?_, ?_, ?_⟩
  · rw [mF_n (by decide), mF_n (by decide), mF_n (by decide), mF_n (by decide), mF_n (by decide), mF_n (by decide), mF_e]
  · rw [mF_n (by decide), mF_n (by decide), mF_n (by decide), mF_n (by decide), mF_n (by decide), mF_e]
  · rw [mF_n (by decide), mF_n (by decide), mF_n (by decide), mF_n (by decide), mF_e]
theorem fresh_s (s : MS) (k t v : Int) : sF s (mFresh s k t v) := by
  unfold mFresh
  exact (((((((sF_S (Or.inr (Or.inr rfl))).trans sF_F).trans sF_F).trans sF_F).trans sF_F).trans sF_F).trans sF_F).trans sF_F
theorem jnP1_more {d k t : Int} {K : MS → Prop} : ∀ (n : Nat) (i : Int) (s : MS), jnP1 d k t K n i s → jnP1 d k t K (n + 1) i s
  | 0, i, s, h => ⟨fun _ => h.2, fun q => absurd h.1 (by omega)⟩
  | n + 1, i, s, h => ⟨h.1, fun q => ⟨(h.2 q).1, fun z => ⟨((h.2 q).2.1 z).1, jnP1_more n _ _ ((h.2 q).2.1 z).2⟩, fun z => jnP1_more n _ _ ((h.2 q).2.2 z)⟩⟩
/-- an event joins: cells of the desk's head alone stay -/
theorem join_ok {d n b k t v : Int} {s : MS} {K : MS → Prop} (hV : dV d n b s) (hd : dOk d) (hn : n ≤ 160) (hb : b + 651 ≤ 1000000) (hk : 0 ≤ k ∧ k ≤ 5) (kk : ∀ s', (∀ c, 0 ≤ d * 2804 + c → hC c → mg s' (d * 2804 + c) = mg s (d * 2804 + c)) → sF s s' → dV d (n + 1) (b + 651) s' → okRs d s' → K s') : mJoinP s d k t v 650 K := by
  have V := hV.cong (fresh_3 s k t v)
  have e := mg_cong (fresh_3 s k t v)
  have e0 := fresh_v s k t v
  have S0 := fresh_s s k t v
  unfold mJoinP
  generalize mFresh s k t v = u at V e e0 S0 ⊢
  have h5 := V.1
  refine j1_ok hd (by omega) 650 b 0 u V (Int.le_refl _) (by omega) (by omega) (fun s1 F1 V1 => ?_)
  have h51 := V1.1
  refine j2_ok hd (by omega) 650 _ s1 V1 (by rw [wI_id ⟨by omega, by omega⟩]; omega) (by rw [wI_id ⟨by omega, by omega⟩]; omega) (fun s2 H2 V2 => ?_)
  have e2 : s2.2 4 0 = k := by rw [H2.2.2.1, F1.2.2.2.1, e0.1]
  have e3 : s2.2 4 1 ≤ s2.2 4 2 := H2.2.2.2.1 (by rw [F1.2.2.2.1, e0.2.1, e0.2.2]; exact Int.le_refl _)
  refine jE_ok V2 hd hn (by omega) (by rw [e2]; exact hk) e3 (fun s3 H3 V3 R3 => kk s3 ?_ ?_ (V3.more (by omega)) R3)
  · intro c c0 hc
    rw [((F1.hd.trans H2).trans H3).1 c c0 hc, e]
  · exact S0.trans ((F1.hd.trans H2).trans H3).2.1
end
