/-! ===== the law: rules ===== -/
section LW
variable {S : XS} {Nn : Nat} {M μ : XI} {rc rs pc pc2 : Nat} {L : List (Option Value)} {st rest : List Value} {h hl : XH} {Po : Option (Option Value) → XH → Prop} {Po' : Option Value → XH → Prop}
theorem xn_wid {rc' rs' : Nat} (q1 : rc ≤ rc') (q2 : rs ≤ rs') (k : xn_W S Nn M rc rs pc L st h Po) : xn_W S Nn M rc' rs' pc L st h Po := by
  intro p l e R s m args below meth c D aC ρ σ aV A H locs cells slots ls Q hX hH hL h1 h2 hr ht hZ
  exact k p l e R s m args below meth c D aC ρ σ aV A H locs cells slots ls Q hX hH hL (by omega) (by omega) (fun ρ' v h' H' locs' pc' cells' slots' ls' a0 a1 a2 a3 a4 a5 => hr ρ' v h' H' locs' pc' cells' slots' ls' a0 a1 a2 a3 (by omega) (by omega)) (fun ρ' h' H' locs' pc' cells' slots' ls' a0 a1 a2 a3 a4 a5 a6 => ht ρ' h' H' locs' pc' cells' slots' ls' a0 a1 a2 a3 (by omega) (by omega) a6) hZ
theorem xn_weak {L' : List (Option Value)} (hl : ∀ i v, xl_n L' i = some (some v) → xl_n L i = some (some v)) (k : xn_W S Nn M rc rs pc L' st h Po) : xn_W S Nn M rc rs pc L st h Po := by
  intro p l e R s m args below meth c D aC ρ σ aV A H locs cells slots ls Q hX hH hL h1 h2 hr ht hZ
  exact k p l e R s m args below meth c D aC ρ σ aV A H locs cells slots ls Q hX hH ⟨hL.1, hL.2.1, fun i v hi => hL.2.2 i v (hl i v hi)⟩ h1 h2 hr ht hZ
theorem xn_tabI {dflt lo hi : Int} {offs : Array Int} {len tgt : Nat} {off : Int} {x : Int32} (d : decode M.2.1 pc = .ok (.tableswitch dflt lo hi offs, len)) (h1 : ¬ x.toInt < lo) (h2 : ¬ hi < x.toInt) (ho : offs[(x.toInt - lo).toNat]? = some off) (ht : (pc : Int) + off = (tgt : Int)) (k : xn_W S Nn M rc rs tgt L st h Po) : xn_W S Nn M rc rs pc L (.int x :: st) h Po :=
  xn_go (fun hX k => lv_tableIn hX.1 hX.2.1 d h1 h2 ho ht k) k
theorem xn_tabO {dflt lo hi : Int} {offs : Array Int} {len tgt : Nat} {x : Int32} (d : decode M.2.1 pc = .ok (.tableswitch dflt lo hi offs, len)) (h1 : x.toInt < lo ∨ hi < x.toInt) (ht : (pc : Int) + dflt = (tgt : Int)) (k : xn_W S Nn M rc rs tgt L st h Po) : xn_W S Nn M rc rs pc L (.int x :: st) h Po :=
  xn_go (fun hX k => lv_tableOut hX.1 hX.2.1 d h1 ht k) k
theorem xl_L.put2 {ρ σ : Nat → Nat} {n i : Nat} {ls : Array Slot} {v : Value} (hk : xl_k L i = true) (h1 : lv_has ls n ((i, xl_v ρ σ v) :: (xl_p ρ σ L).filter (fun q => !(q.1 == i) && (!(q.1 == i + 1) && !(q.1 + 1 == i && q.2.category == 2))))) : xl_L ρ σ n ls (xl_s (xl_s L i (some v)) (i + 1) none) := by
  refine ⟨h1.1, h1.2.1, fun j w hw => ?_⟩
  rcases xl_n_s hw with ⟨-, e2⟩ | ⟨e0, e2⟩
  · cases e2
  · rcases xl_n_s e2 with ⟨rfl, e3⟩ | ⟨e1, e3⟩
    · cases e3
      exact h1.2.2 (_, xl_v ρ σ v) List.mem_cons_self
    · refine h1.2.2 (j, xl_v ρ σ w) (List.mem_cons_of_mem _ (List.mem_filter.mpr ⟨xl_p_mem.mpr ⟨w, e3, rfl⟩, ?_⟩))
      simp only [Bool.and_eq_true, Bool.not_eq_true', beq_eq_false_iff_ne, Bool.and_eq_false_iff, ne_eq]
      refine ⟨e1, e0, ?_⟩
      by_cases hj : j + 1 = i
      · subst hj
        exact Or.inr (xl_1n (xl_k_of hk e3))
      · exact Or.inl hj
theorem xn_lstore {i : Nat} {a : Int64} (d : xl_D M pc (.lstore i) 2 pc2) (hk : xl_k L i = true) (hn : i + 1 < M.2.2.1) (k : xn_W S Nn M rc rs pc2 (xl_s (xl_s L i (some (.long a))) (i + 1) none) st h Po) : xn_W S Nn M rc rs pc L (.long a :: st) h Po := by
  obtain ⟨d, rfl⟩ := d
  intro p l e R s m args below meth c D aC ρ σ aV A H locs cells slots ls Q hX hH hL h1 h2 hr ht hZ
  exact lv_lstore hX.1 hX.2.1 d hL.has hn rfl (fun ls' hl => k p l e R s m args below meth c D aC ρ σ aV A H locs cells slots ls' Q hX hH (xl_L.put2 (v := .long a) hk hl) h1 h2 hr ht hZ)
/-- a helper with a table -/
def wr_V (μ : XI) (hh : List (Nat × Nat × Nat × Nat)) : Prop := Cond.codeWith μ.1 μ.2.1 μ.2.2.1 μ.2.2.2.1 hh ∈ xl_T ∧ Cond.static μ.1 ∈ xl_T ∧ Cond.initialized μ.1.cls ∈ xl_T ∧ μ.1.cls ≠ "java/lang/invoke/MethodHandle" ∧ μ.1.cls ≠ "java/lang/invoke/VarHandle" ∧ (parseMethodDescriptor μ.1.desc).map (fun d => d.parameters.length) = some μ.2.2.2.2.2.2 ∧ μ.2.2.2.2.1 = 7 ∧ μ.2.2.2.2.2.1 = 130
theorem xn_callSW {N : Nat} {xs : Nat → Int32} {hh : List (Nat × Nat × Nat × Nat)} (π : Nat → Nat) {As As' : List Value} (d : xl_Cs M pc μ pc2) (hv : wr_V μ hh) (hst : st = As.reverse ++ rest) (hn : As.length = μ.2.2.2.2.2.2) (hw : (rest.map fun v => if xl_1 v = true then 1 else 2).sum ≤ 8) (hAs : ∀ ρ σ : Nat → Nat, As.map (xl_v ρ σ) = As'.map (xl_v (fun k => ρ (π k)) σ))
    (hp : xl_pi π h hl) (hok : ∀ j c, hl[j]? = some c → xl_ok π j c) (hc : wr_C μ hh As' hl Po') (hlen : ∀ v h', Po' v h' → h'.length = hl.length ∧ (∀ j c, h'[j]? = some c → xl_ok π j c) ∧ ∀ a, v ≠ some (.ref a))
    (kk : ∀ v h' h1, Po' v h' → xl_back π hl.length h h' h1 → xn_W (some (N, xs, xt_E)) Nn M rc rs pc2 L (v.toList ++ rest) h1 Po) : xn_W (some (N, xs, xt_E)) Nn M (rc + 1) (rs + 6) pc L st h Po := by
  obtain ⟨i, d, rfl, d3, d4, d5⟩ := d
  obtain ⟨w1, w2, w3, w4, w5, w6, w7, w8⟩ := hv
  subst hst
  intro p l e R s m args below meth c D aC ρ σ aV A H locs cells slots ls Q hX hH hL h1 h2 hr ht hZ
  obtain ⟨hK, hP, hD, hS, hE, hA⟩ := id hH
  obtain ⟨g1, g2, g3⟩ := xl_part hH hp hok
  have hT := hX.2.2.2.2.2.1
  have hG : GoodIn xl_T (wr_ws μ hh) := fun w hw => by
    have hm : w ∈ xl_T := by
      rcases List.mem_cons.mp hw with rfl | h
      · exact w1
      · exact h
    exact ⟨hm, good_of_word (xl_Tg w hm)⟩
  have hfr := Nat.le_trans d4 hX.2.2.2.2.2.2.2.1
  have hlo := Nat.le_trans d5 hX.2.2.2.2.2.2.2.2.1
  rw [w7] at hfr
  rw [w8] at hlo
  have hcw : vx_CSW R s args M.1.cls i μ.1 μ.2.1 μ.2.2.1 μ.2.2.2.1 hh (wr_ws μ hh) wr_rm 1 6 μ.2.2.2.2.2.2 := ⟨⟨rfl, rfl, hfr, hlo, pay_in hT hG, List.mem_cons_self⟩, hT _ w1, hT _ w3, ⟨w4, w5⟩, fun sig h => by
    rw [h] at w6
    exact (Option.some.inj w6).symm, hT _ d3, hT _ w2⟩
  have hrun := vx_runSW (As := As.map (xl_v ρ σ)) (rest := rest.map (xl_v ρ σ)) (g := F0 m pc ls ((As.reverse ++ rest).map (xl_v ρ σ))) (H := H) (locs := locs) (cells := cells) (slots := slots) (e := e) (below := below) (meth := meth) ⟨hX.1, hX.2.1, hX.2.2.2.1, hX.2.2.2.2.1, hT⟩ (hc l hX.2.2.2.2.2.2.2.2.2 D aC (fun k => ρ (π k)) σ aV H.size) hcw
    ⟨xt_blind, fun U hU hW => xt_ready hH hZ.2.2.2.2.2 hp hok hU hW (hAs ρ σ)⟩ rfl (by rw [List.length_map]; exact hn) hL.1 (by simp [xl_v]) (lv_room (by rw [xl_cats]; exact hw)) d ⟨by omega, by omega⟩
  refine xl_after hrun hS (fun q _ hq => g3 q hq) g3 (fun v h' H1 locs1 hPo hP1 hD1 hz1 hk1 hS1 => ?_)
  obtain ⟨q1, q2, q3⟩ := hlen v h' hPo
  have hback : ∃ h1, xl_back π hl.length h h' h1 := by
    refine ⟨h.mapIdx (fun k c => if hx : ∃ j, j < hl.length ∧ π j = k then (h'[hx.choose]?).getD c else c), by simp, fun j hj => ?_, fun k hk => ?_⟩
    · have hx : ∃ j', j' < hl.length ∧ π j' = π j := ⟨j, hj, rfl⟩
      have hcj : hx.choose = j := hp.1 _ _ hx.choose_spec.1 hj hx.choose_spec.2
      obtain ⟨g4, g5⟩ := hp.2 j hj
      rw [List.getElem?_mapIdx, List.getElem?_eq_getElem g5]
      simp only [Option.map_some]
      rw [dif_pos hx, hcj, List.getElem?_eq_getElem (by omega)]
      rfl
    · rw [List.getElem?_mapIdx]
      cases hhk : h[k]? with
      | none => rfl
      | some c =>
        simp only [Option.map_some]
        rw [dif_neg (fun ⟨j, hj, ej⟩ => hk j hj ej)]
  obtain ⟨h1', hb⟩ := hback
  have hH1 := xl_joined hH hp hb q1 q2 hP1 hk1 hS1
  have := kk v h' h1' hPo hb p l e R s m args below meth c D aC ρ σ aV A H1 locs1 (cells + 1) (slots + 6) ls Q hX hH1 hL (by omega) (by omega) (fun ρ' v h' H' locs' pc' cells' slots' ls' a0 a1 a2 a3 a4 a5 => hr ρ' v h' H' locs' pc' cells' slots' ls' a0 a1 a2 a3 (by omega) (by omega)) (fun ρ' h' H' locs' pc' cells' slots' ls' a0 a1 a2 a3 a4 a5 a6 => ht ρ' h' H' locs' pc' cells' slots' ls' a0 a1 a2 a3 (by omega) (by omega) a6) hZ
  rw [List.map_append] at this
  have ev : (v.map (xl_v (fun k => ρ (π k)) σ)).toList = v.toList.map (xl_v ρ σ) := by
    cases v with
    | none => rfl
    | some v => cases v <;> first | rfl | exact absurd rfl (q3 _)
  rw [ev]
  exact this
end LW
/-! ===== the law's cells: the class, a row of one long, the model ===== -/
def encZ (x : LSt) (m : MS) (out : Nat → Int) : XH := encL x ++ (xL 1 out :: encM m)
theorem lenM13 (m : MS) : (encM m).length = 13 := rfl
theorem lenZ (x : LSt) (m : MS) (out : Nat → Int) : (encZ x m out).length = 151 := by rw [encZ, List.length_append, lenL137, List.length_cons, lenM13]
theorem encZ_O (x : LSt) (m : MS) (out : Nat → Int) : encZ x m out = (encL x ++ [xL 1 out]) ++ (encM m ++ []) := by rw [encZ]; simp
theorem lenO138 (x : LSt) (out : Nat → Int) : (encL x ++ [xL 1 out]).length = 138 := lenO x out
abbrev lwL (i : Nat) : List (Option Value) := [some (.float 99), some (.ref 0), some (.ref 138), some (.ref 137), some (xi i), none, none, none]
section LC
variable {S : XS} {Nn : Nat} {M μ : XI} {rc rs pc pc2 : Nat} {L : List (Option Value)} {rest : List Value} {Po : Option (Option Value) → XH → Prop}
/-- a call of the class -/
theorem lwX {f : List PV → LSt → (PS → LSt → Prop) → Prop} {as : List PV} {x : LSt} {m : MS} {out : Nat → Int} {K : PS → LSt → Prop} (d : xl_Ca M pc μ pc2) (hv : xl_V μ) (hm : mOk encL bdL μ (atR 0 f)) (hcl : ∃ T N, vwCl[2]? = some (μ.1.cls, T, N)) (hn : as.length = μ.2.2.2.2.2.2) (hnr : as.all pnr = true) (hw : (rest.map fun v => if xl_1 v = true then 1 else 2).sum ≤ 8) (hb : bdL x) (hs : f as x K)
    (kk : ∀ v x', K v x' → bdL x' → xn_W S Nn M rc rs pc2 L (v.map pV ++ rest) (encZ x' m out) Po) : xn_W S Nn M rc rs pc L ((as.map pV).reverse ++ .ref 0 :: rest) (encZ x m out) Po := by
  have g := xn_callR (S := S) (Nn := Nn) (rc := rc) (rs := rs) (L := L) (rest := rest) (Po := Po) [] (xL 1 out :: encM m) d hv hm hcl lenL recL hn hnr hw hb hs (fun v x' hK hb' => by rw [List.nil_append]; exact kk v x' hK hb')
  rw [List.nil_append] at g
  exact g
/-- a call of the model -/
theorem lwM {f : List PV → MS → (PS → MS → Prop) → Prop} {as : List PV} {x : LSt} {m : MS} {out : Nat → Int} {K : PS → MS → Prop} (d : xl_Ca M pc μ pc2) (hv : xl_V μ) (hm : mOk encM bdM μ (atR 0 f)) (hcl : ∃ T N, vwCl[3]? = some (μ.1.cls, T, N)) (hn : as.length = μ.2.2.2.2.2.2) (hnr : as.all pnr = true) (hw : (rest.map fun v => if xl_1 v = true then 1 else 2).sum ≤ 8) (hb : bdM m) (hs : f as m K)
    (kk : ∀ v m', K v m' → bdM m' → xn_W S Nn M rc rs pc2 L (v.map pV ++ rest) (encZ x m' out) Po) : xn_W S Nn M rc rs pc L ((as.map pV).reverse ++ .ref 138 :: rest) (encZ x m out) Po := by
  have g := xn_callR (S := S) (Nn := Nn) (rc := rc) (rs := rs) (L := L) (rest := rest) (Po := Po) (encL x ++ [xL 1 out]) [] d hv hm hcl lenM recM hn hnr hw hb hs (fun v m' hK hb' => by rw [← encZ_O]; exact kk v m' hK hb')
  rw [← encZ_O, lenO138] at g
  exact g
/-- a call of a helper -/
theorem lwW {N : Nat} {xs : Nat → Int32} {hh : List (Nat × Nat × Nat × Nat)} {As : List Value} {x : LSt} {m : MS} {out : Nat → Int} {Ok : Int → Prop} {Bad : Prop} (d : xl_Cs M pc μ pc2) (hv : wr_V μ hh) (hn : As.length = μ.2.2.2.2.2.2) (hw : (rest.map fun v => if xl_1 v = true then 1 else 2).sum ≤ 8)
    (hc : wr_C μ hh As (encL x ++ [xL 1 out]) (fun v h' => (∃ z, xb z ∧ Ok z ∧ v = some (xi 0) ∧ h' = encL x ++ [xL 1 (xup out 0 z)]) ∨ (Bad ∧ v = some (xi 1) ∧ h' = encL x ++ [xL 1 out])))
    (k0 : ∀ z, xb z → Ok z → xn_W (some (N, xs, xt_E)) Nn M rc rs pc2 L (xi 0 :: rest) (encZ x m (xup out 0 z)) Po) (k1 : Bad → xn_W (some (N, xs, xt_E)) Nn M rc rs pc2 L (xi 1 :: rest) (encZ x m out) Po) : xn_W (some (N, xs, xt_E)) Nn M (rc + 1) (rs + 6) pc L (As.reverse ++ rest) (encZ x m out) Po := by
  have e0 : encZ x m out = (encL x ++ [xL 1 out]) ++ encM m := by rw [encZ_O, List.append_nil]
  have hcut : ((encZ x m out).drop 0).take (encL x ++ [xL 1 out]).length = encL x ++ [xL 1 out] := by
    rw [e0, List.drop_zero, List.take_left]
  have hdr : (encZ x m out).drop (0 + (encL x ++ [xL 1 out]).length) = encM m := by
    rw [e0, Nat.zero_add, List.drop_left]
  refine xn_callSW (fun k => 0 + k) d hv rfl hn hw (fun ρ σ => ?_) (xl_pi_add hcut) (fun j c _ => xl_ok_add _ j c) hc (fun v h' q => ?_) (fun v h' h1 q hb => ?_)
  · exact List.map_congr_left (fun v _ => by cases v <;> first | rfl | (show Value.ref (ρ _) = Value.ref (ρ (0 + _)); rw [Nat.zero_add]))
  · rcases q with ⟨z, -, -, rfl, rfl⟩ | ⟨-, rfl, rfl⟩
    · exact ⟨by rw [lenO138, lenO138], fun j c _ => xl_ok_add _ j c, fun a e => by cases e⟩
    · exact ⟨by rw [lenO138], fun j c _ => xl_ok_add _ j c, fun a e => by cases e⟩
  · have hl' : h'.length = (encL x ++ [xL 1 out]).length := by
      rcases q with ⟨z, -, -, rfl, rfl⟩ | ⟨-, rfl, rfl⟩
      · rw [lenO138, lenO138]
      · rfl
    have e := xl_back_add hcut (by rw [lenO138]; decide) hl' hb
    rw [hdr, List.take_zero, List.nil_append] at e
    rcases q with ⟨z, hz, hk, rfl, rfl⟩ | ⟨hk, rfl, rfl⟩
    · have e1 : encZ x m (xup out 0 z) = (encL x ++ [xL 1 (xup out 0 z)]) ++ encM m := by rw [encZ_O, List.append_nil]
      rw [e, ← e1]
      exact k0 z hz hk
    · rw [e, ← e0]
      exact k1 hk
/-- an int of the script -/
theorem lwA {N : Nat} {z : Nat → Int} {Zz : (Nat → Prop) → State → Prop} {st : List Value} {h : XH} {i jn p1 p2 p3 p4 : Nat} {j : Int} (d1 : xl_D M pc (.aload_n 0) 1 p1) (d2 : xl_D M p1 (.iload 4) 2 p2) (d3 : xl_D M p2 (.iconst j) 1 p3) (d4 : xl_D M p3 .iadd 1 p4) (d5 : xl_D M p4 .iaload 1 pc2) (hL0 : xl_n L 0 = some (some (.float 99))) (hL4 : xl_n L 4 = some (some (xi i))) (hj : j = jn) (hi : i + jn < N) (hN : N ≤ 3000) (kk : xn_W (some (N, fun k => iI (z k), Zz)) Nn M rc rs pc2 L (xi (z (i + jn)) :: st) h Po) : xn_W (some (N, fun k => iI (z k), Zz)) Nn M rc rs pc L st h Po := by
  refine xn_saload_n d1 hL0 (xn_iload d2 hL4 (xn_iconst (iI jn) d3 (by rw [hj]; rfl) (xn_iadd d4 ?_)))
  rw [iI_add]
  refine xn_sld d5 (iI_in ⟨by omega, by omega⟩ (by omega) (by omega)) ?_
  rw [iI_nat ⟨by omega, by omega⟩, show ((i : Int) + (jn : Int)).toNat = i + jn by omega]
  exact kk
end LC
