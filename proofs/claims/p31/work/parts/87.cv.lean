/-! ===== a method of a view, at a place, in a method that makes cells ===== -/
section XW
variable {σ : Type} {enc : σ → XH} {bd : σ → Prop} {S : XS} {Nn : Nat} {M μ : XI} {rc rs pc pc2 : Nat} {L : List (Option Value)} {rest : List Value} {Po : Option (Option Value) → XH → Prop}
theorem xn_callR {f : List PV → σ → (PS → σ → Prop) → Prop} {ci : Nat} (P T : XH) {as : List PV} {s : σ} {K : PS → σ → Prop} (d : xl_Ca M pc μ pc2) (hv : xl_V μ) (hm : mOk enc bd μ (atR 0 f)) (hcl : ∃ T N, vwCl[ci]? = some (μ.1.cls, T, N)) (hl : ∀ s s' : σ, (enc s').length = (enc s).length) (hr : ∀ s, ∃ fs, xl_n (enc s) 0 = some (.inr (ci, fs))) (hn : as.length = μ.2.2.2.2.2.2) (hnr : as.all pnr = true) (hw : (rest.map fun v => if xl_1 v = true then 1 else 2).sum ≤ 8) (hb : bd s) (hs : f as s K)
    (kk : ∀ v s', K v s' → bd s' → xn_W S Nn M rc rs pc2 L (v.map pV ++ rest) (P ++ (enc s' ++ T)) Po) : xn_W S Nn M rc rs pc L ((as.map pV).reverse ++ .ref P.length :: rest) (P ++ (enc s ++ T)) Po := by
  obtain ⟨fs, hfs⟩ := hr s
  rw [xl_n_eq] at hfs
  have h0 : 0 < (enc s).length := (List.getElem?_eq_some_iff.mp hfs).1
  have hcut : ((P ++ (enc s ++ T)).drop P.length).take (enc s).length = enc s := by simp
  have hc := hm (pR 0 :: as) s K hb hs
  have hh : xl_n (P ++ (enc s ++ T)) P.length = some (.inr (ci, fs)) := by
    rw [xl_n_eq, List.getElem?_append_right (Nat.le_refl _), Nat.sub_self, List.getElem?_append_left h0]
    exact hfs
  refine xn_callV (mc := 0) (ms := 0) (As := as.map pV) (As' := (pR 0 :: as).map pV) (rest := rest) (fun k => P.length + k) d hv hcl hh rfl (by rw [List.length_map]; exact hn) hw ?_ (xl_pi_add hcut) (fun j c _ => xl_ok_add _ j c) hc ?_ ?_
  · intro ρ σ'
    rw [List.map_cons, List.map_cons, List.map_cons, ← pRel_m (fun k => P.length + k), pnr_rel hnr]
    rfl
  · rintro v h' ⟨v', s', e1, rfl, q1, q2, q3⟩
    exact ⟨hl s s', fun j c _ => xl_ok_add _ j c, q2⟩
  · rintro v h' h1 ⟨v', s', e1, rfl, q1, q2, q3⟩ hbk
    have e := xl_back_add hcut h0 (hl s s') hbk
    have e2 : (P ++ (enc s ++ T)).take P.length = P := by simp
    have e3 : (P ++ (enc s ++ T)).drop (P.length + (enc s).length) = T := by
      rw [← List.append_assoc, show P.length + (enc s).length = (P ++ enc s).length by simp]
      simp
    rw [e2, e3] at e
    rw [e, e1]
    exact kk _ _ q3 q1
/-- the last field of cells that were just made -/
theorem xn_ldone {h : XH} (e : L = L) (k : xn_W S Nn M rc rs pc L rest h Po) : xn_W S Nn M rc rs pc L rest h Po := k
end XW
/-! ===== Table, World: their constructors ===== -/
def tab0 : TS := (0, fun _ => 0)
theorem hyq (n : String) : ∀ a, narrow (.object n) (.ref a) = .ref a ∧ fits (.object n) (.ref a) = true := fun a => ⟨rfl, rfl⟩
theorem hya (t : FieldType) : ∀ a, narrow (.array t) (.ref a) = .ref a ∧ fits (.array t) (.ref a) = true := fun a => ⟨rfl, rfl⟩
theorem newi {N : Nat} (cA : ClassId) : vp_cell cA (N, .inl (fun _ => iI 0)) = arrV cA N (fun _ => defaultValue (newarray.typeOf .int)) := rfl
theorem newl {N : Nat} (cA : ClassId) : vp_cell cA (N, .inr (.inl (fun _ => lI 0))) = arrV cA N (fun _ => defaultValue (newarray.typeOf .long)) := rfl
theorem newz {N : Nat} (cA : ClassId) : vp_cell cA (N, .inl (fun _ => iI 0)) = arrV cA N (fun _ => defaultValue (newarray.typeOf .boolean)) := rfl
theorem cX0_init_ok (rm w : Int) (N : Nat) (e1 : (if (0 : Int32) < iI rm then iI rm else 0) = iI rm) (e2 : (if (0 : Int32) < iI w then iI w else 0) = iI w) (e3 : iI rm * iI w = iI (rm * w)) (e4 : ¬ iI (rm * w) < 0) (e5 : (iI (rm * w)).toNatClampNeg = N) (e6 : N * 4 ≤ 536870912) (e7 : (rm * w).toNat = N) : xn_C mX0_init (0 + 1) (0 + N) [.ref 0, xi rm, xi w] [xO 0 dfX0] (fun h' => h' = encT rm w tab0) := by
  refine xn_con kX0_init [some (.ref 0), some (xi rm), some (xi w)] rfl (Nat.le_of_ble_eq_true rfl) ?_
  show xn_W none 1 mX0_init (0 + 1) (0 + N) 0 _ _ _ _
  refine xn_aload_n iX0_init_0 rfl ?_
  refine xn_obj oX0_init_1 ?_
  refine xn_aload_n iX0_init_4 rfl ?_
  refine xn_iconst 0 iX0_init_5 rfl ?_
  refine xn_iload_n iX0_init_6 rfl ?_
  refine xn_max (a := 0) (b := iI rm) iX0_init_7 (by decide) ?_
  rw [e1]
  refine xn_putfi pX0_init_10 (fs := dfX0) rfl (by decide) ?_
  show xn_W none 1 mX0_init _ _ 13 _ _ [xO 0 [xi rm, xi 0, .null, xi 0]] _
  refine xn_aload_n iX0_init_13 rfl ?_
  refine xn_iconst 0 iX0_init_14 rfl ?_
  refine xn_iload_n iX0_init_15 rfl ?_
  refine xn_max (a := 0) (b := iI w) iX0_init_16 (by decide) ?_
  rw [e2]
  refine xn_putfi pX0_init_19 (fs := [xi rm, xi 0, .null, xi 0]) rfl (Nat.le_of_ble_eq_true rfl) ?_
  show xn_W none 1 mX0_init _ _ 22 _ _ [xO 0 [xi rm, xi w, .null, xi 0]] _
  refine xn_aload_n iX0_init_22 rfl ?_
  refine xn_aload_n iX0_init_23 rfl ?_
  refine xn_get iX0_init_24 (v := xi rm) rfl rfl ?_
  refine xn_aload_n iX0_init_27 rfl ?_
  refine xn_get iX0_init_28 (v := xi w) rfl rfl ?_
  refine xn_imul (a := iI rm) (b := iI w) iX0_init_31 ?_
  rw [e3]
  refine xn_newa (t := 0) (a0 := (N, .inl (fun _ => iI 0))) iX0_init_32 ac_i (fun _ => rfl) newi e4 e5 e6 (Nat.le_refl _) (xn_fr_ok ⟨Nat.le_refl _, ⟨rfl, trivial⟩, rfl, rfl⟩) (fun _ _ => rfl) ?_
  refine xn_putf (fs := [xi rm, xi w, .null, xi 0]) pX0_init_34 (hya _) (Nat.zero_le _) rfl (Nat.le_of_ble_eq_true rfl) ?_
  refine xn_return iX0_init_37 rfl ⟨rfl, ?_⟩
  show [xO 0 [xi rm, xi w, .ref 1, xi 0], xA N (fun _ => 0)] = _
  rw [← e7]
  rfl
