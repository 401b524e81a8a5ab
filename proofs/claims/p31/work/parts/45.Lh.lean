/-! ===== LateSessions: kept, counted, played again ===== -/
section INCW
variable {σ : Type} {enc : σ → XH} {bd : σ → Prop} {M : XI} {rc rs pc pc2 : Nat} {B : Blk σ}
def oIncW (i : Nat) (n : Int) (B : Blk σ) : Blk σ := fun J L st s => match xl_n L i with
  | some (some (.inl z)) => bif pk L i then (xB (wI (z + n)) → B J (xl_s L i (some (.inl (wI (z + n))))) st s) else False
  | _ => False
theorem okIncW {i : Nat} {n : Int} (d : xl_D M pc (.iinc i n) 3 pc2) (hn : i < M.2.2.1) (k : bOk enc bd M rc rs pc2 B) : bOk enc bd M rc rs pc (oIncW i n B) := by
  intro Po Pt J hJ L st s hb h
  unfold oIncW at h
  split at h
  · next z hz => 
    obtain ⟨h1, h2⟩ := condT h
    have := k Po Pt J hJ _ _ _ hb (h2 (wI_B _))
    rw [← eL_s, pV_wI] at this
    exact xz_iinc d (eL_at hz) (pk_ok _ _ h1) hn this
  · exact h.elim
end INCW
def bitOf (i : Int) : Int := (iI 1 <<< (iI i &&& 31)).toInt
def fKeep (s : LSt) (i : Int) : Int × LSt := if 0 ≤ i ∧ i < 2 then (1, setS (setW s (8 + i.toNat) (wCopy (s.2.2 (8 + i.toNat)) (s.2.2 0))) 2 (iI (s.1 2) ||| iI (bitOf i)).toInt) else (0, s)
def sX2_keep : Int → LSt → KL → Prop := fun i s K => (xB i ∧ lok s) ∧ K [pI (fKeep s i).1] (fKeep s i).2
theorem mX2_keep_ok : mOk encL bdL mX2_keep (atR 0 (a1 sX2_keep)) := by
  refine mOVa1 kX2_keep (fun _ => rfl) (fun i s K h hb => wx_J [] 9 tX2_keep_ok rfl (fun J hR hJ => ?_))
  obtain ⟨⟨h1, h5⟩, hK⟩ := h
  have hw := h5.2.2.2 0 (by decide)
  unfold fKeep at hK
  by_cases c : 0 ≤ i ∧ i < 2
  · rw [if_pos c] at hK
    refine ⟨h1, fun q => absurd q (by omega), fun _ => ⟨⟨h1, ⟨by omega, by omega⟩⟩, fun _ => ?_, fun q => absurd q (by omega)⟩⟩
    refine ⟨c, fun j hj ej => ?_⟩
    rw [show i.toNat = j by omega] at hK
    match j, hj with
    | 0, _ => exact ⟨hw, fun _ => ⟨xb_of _, ⟨Or.inr rfl, hR _ _ hK⟩⟩⟩
    | 1, _ => exact ⟨hw, fun _ => ⟨xb_of _, ⟨Or.inr rfl, hR _ _ hK⟩⟩⟩
    | j + 2, hj => exact absurd hj (by omega)
  · rw [if_neg c] at hK
    refine ⟨h1, fun q => ⟨Or.inl rfl, hR _ _ hK⟩, fun _ => ⟨⟨h1, ⟨by omega, by omega⟩⟩, fun q => absurd q (by omega), fun q => ⟨Or.inl rfl, hR _ _ hK⟩⟩⟩
def fBack (s : LSt) (i : Int) : Int × LSt := if (0 ≤ i ∧ i < 2) ∧ (iI (s.1 2) &&& iI (bitOf i)).toInt ≠ 0 then (1, setS (setW s 0 (wCopy (s.2.2 0) (s.2.2 (8 + i.toNat)))) 1 0) else (0, s)
def sX2_back : Int → LSt → KL → Prop := fun i s K => (xB i ∧ lok s) ∧ K [pI (fBack s i).1] (fBack s i).2
theorem mX2_back_ok : mOk encL bdL mX2_back (atR 0 (a1 sX2_back)) := by
  refine mOVa1 kX2_back (fun _ => rfl) (fun i s K h hb => wx_J [] 9 tX2_back_ok rfl (fun J hR hJ => ?_))
  obtain ⟨⟨h1, h5⟩, hK⟩ := h
  have hx := h5.2.2.2
  unfold fBack at hK
  by_cases c : 0 ≤ i ∧ i < 2
  · by_cases c2 : (iI (s.1 2) &&& iI (bitOf i)).toInt ≠ 0
    · rw [if_pos ⟨c, c2⟩] at hK
      refine ⟨h1, fun q => absurd q (by omega), fun _ => ⟨⟨h1, ⟨by omega, by omega⟩⟩, fun q => absurd q (by omega), fun _ _ => ⟨xb_of _, fun _ => ?_, fun q => absurd q c2⟩⟩⟩
      refine ⟨c, fun j hj ej => ?_⟩
      rw [show i.toNat = j by omega] at hK
      match j, hj with
      | 0, _ => exact ⟨hx 8 (by decide), ⟨by omega, by omega⟩, ⟨Or.inr rfl, hR _ _ hK⟩⟩
      | 1, _ => exact ⟨hx 9 (by decide), ⟨by omega, by omega⟩, ⟨Or.inr rfl, hR _ _ hK⟩⟩
      | j + 2, hj => exact absurd hj (by omega)
    · rw [if_neg (fun q => c2 q.2)] at hK
      refine ⟨h1, fun q => absurd q (by omega), fun _ => ⟨⟨h1, ⟨by omega, by omega⟩⟩, fun q => absurd q (by omega), fun _ _ => ⟨xb_of _, fun q => absurd q c2, fun q => ⟨Or.inl rfl, hR _ _ hK⟩⟩⟩⟩
  · rw [if_neg (fun q => c q.1)] at hK
    refine ⟨h1, fun q => ⟨Or.inl rfl, hR _ _ hK⟩, fun _ => ⟨⟨h1, ⟨by omega, by omega⟩⟩, fun q => ⟨Or.inl rfl, hR _ _ hK⟩, fun q => absurd q (by omega)⟩⟩
def fCount (s : LSt) (a : Int) : Int :=
  let w := s.2.2 0
  if a = 0 then wZ w 0 else if a = 1 then w.1 0 else if a = 2 then w.1 1 else if a = 3 then w.1 2 else if a = 4 then w.1 3 else if a = 5 then wZ w 1 else if a = 6 then wZ w 4 else if a = 7 then w.1 4 else if a = 8 then s.1 1 else if a = 9 then s.1 3 else if a = 10 then s.1 4 else -1
def sX2_count : Int → LSt → KL → Prop := fun a s K => xB a ∧ K [pI (fCount s a)] s
theorem mX2_count_ok : mOk encL bdL mX2_count (atR 0 (a1 sX2_count)) := by
  refine mOVa1 kX2_count (fun _ => rfl) (fun a s K h hb => wx_J [] 9 tX2_count_ok rfl (fun J hR hJ => ?_))
  obtain ⟨h1, hK⟩ := h
  unfold fCount at hK
  dsimp only at hK
  refine ⟨h1, fun c => ?_, fun c => ?_, fun c => ?_, fun c => ?_, fun c => ?_, fun c => ?_, fun c => ?_, fun c => ?_, fun c => ?_, fun c => ?_, fun c => ?_, fun c => ?_⟩
  · rw [if_pos (show a = 0 by omega)] at hK
    repeat' (first | (refine And.intro ?_ ?_) | intro _)
    all_goals first | omega | exact hR _ _ hK
  · rw [if_neg (show ¬ a = 0 by omega), if_pos (show a = 1 by omega)] at hK
    repeat' (first | (refine And.intro ?_ ?_) | intro _)
    all_goals first | omega | exact hR _ _ hK
  · rw [if_neg (show ¬ a = 0 by omega), if_neg (show ¬ a = 1 by omega), if_pos (show a = 2 by omega)] at hK
    repeat' (first | (refine And.intro ?_ ?_) | intro _)
    all_goals first | omega | exact hR _ _ hK
  · rw [if_neg (show ¬ a = 0 by omega), if_neg (show ¬ a = 1 by omega), if_neg (show ¬ a = 2 by omega), if_pos (show a = 3 by omega)] at hK
    repeat' (first | (refine And.intro ?_ ?_) | intro _)
    all_goals first | omega | exact hR _ _ hK
  · rw [if_neg (show ¬ a = 0 by omega), if_neg (show ¬ a = 1 by omega), if_neg (show ¬ a = 2 by omega), if_neg (show ¬ a = 3 by omega), if_pos (show a = 4 by omega)] at hK
    repeat' (first | (refine And.intro ?_ ?_) | intro _)
    all_goals first | omega | exact hR _ _ hK
  · rw [if_neg (show ¬ a = 0 by omega), if_neg (show ¬ a = 1 by omega), if_neg (show ¬ a = 2 by omega), if_neg (show ¬ a = 3 by omega), if_neg (show ¬ a = 4 by omega), if_pos (show a = 5 by omega)] at hK
    repeat' (first | (refine And.intro ?_ ?_) | intro _)
    all_goals first | omega | exact hR _ _ hK
  · rw [if_neg (show ¬ a = 0 by omega), if_neg (show ¬ a = 1 by omega), if_neg (show ¬ a = 2 by omega), if_neg (show ¬ a = 3 by omega), if_neg (show ¬ a = 4 by omega), if_neg (show ¬ a = 5 by omega), if_pos (show a = 6 by omega)] at hK
    repeat' (first | (refine And.intro ?_ ?_) | intro _)
    all_goals first | omega | exact hR _ _ hK
  · rw [if_neg (show ¬ a = 0 by omega), if_neg (show ¬ a = 1 by omega), if_neg (show ¬ a = 2 by omega), if_neg (show ¬ a = 3 by omega), if_neg (show ¬ a = 4 by omega), if_neg (show ¬ a = 5 by omega), if_neg (show ¬ a = 6 by omega), if_pos (show a = 7 by omega)] at hK
    repeat' (first | (refine And.intro ?_ ?_) | intro _)
    all_goals first | omega | exact hR _ _ hK
  · rw [if_neg (show ¬ a = 0 by omega), if_neg (show ¬ a = 1 by omega), if_neg (show ¬ a = 2 by omega), if_neg (show ¬ a = 3 by omega), if_neg (show ¬ a = 4 by omega), if_neg (show ¬ a = 5 by omega), if_neg (show ¬ a = 6 by omega), if_neg (show ¬ a = 7 by omega), if_pos (show a = 8 by omega)] at hK
    repeat' (first | (refine And.intro ?_ ?_) | intro _)
    all_goals first | omega | exact hR _ _ hK
  · rw [if_neg (show ¬ a = 0 by omega), if_neg (show ¬ a = 1 by omega), if_neg (show ¬ a = 2 by omega), if_neg (show ¬ a = 3 by omega), if_neg (show ¬ a = 4 by omega), if_neg (show ¬ a = 5 by omega), if_neg (show ¬ a = 6 by omega), if_neg (show ¬ a = 7 by omega), if_neg (show ¬ a = 8 by omega), if_pos (show a = 9 by omega)] at hK
    repeat' (first | (refine And.intro ?_ ?_) | intro _)
    all_goals first | omega | exact hR _ _ hK
  · rw [if_neg (show ¬ a = 0 by omega), if_neg (show ¬ a = 1 by omega), if_neg (show ¬ a = 2 by omega), if_neg (show ¬ a = 3 by omega), if_neg (show ¬ a = 4 by omega), if_neg (show ¬ a = 5 by omega), if_neg (show ¬ a = 6 by omega), if_neg (show ¬ a = 7 by omega), if_neg (show ¬ a = 8 by omega), if_neg (show ¬ a = 9 by omega), if_pos (show a = 10 by omega)] at hK
    repeat' (first | (refine And.intro ?_ ?_) | intro _)
    all_goals first | omega | exact hR _ _ hK
  · rw [if_neg (show ¬ a = 0 by omega), if_neg (show ¬ a = 1 by omega), if_neg (show ¬ a = 2 by omega), if_neg (show ¬ a = 3 by omega), if_neg (show ¬ a = 4 by omega), if_neg (show ¬ a = 5 by omega), if_neg (show ¬ a = 6 by omega), if_neg (show ¬ a = 7 by omega), if_neg (show ¬ a = 8 by omega), if_neg (show ¬ a = 9 by omega), if_neg (show ¬ a = 10 by omega)] at hK
    repeat' (first | (refine And.intro ?_ ?_) | intro _)
    all_goals first | omega | exact hR _ _ hK
-- X2_again: heads [26]
def tX2_again : Nat → Blk LSt := fun pc => bif Nat.blt pc 26 then (bif Nat.blt pc 11 then (bif Nat.beq pc 0 then (oIld 1 <| oIld 2 <| oIld 3 <| oC3 (cL_X2_areSettings) <| oZNe 11 <| oI (-1) <| oIret) else oNo) else (bif Nat.beq pc 11 then (oAld 0 <| oIld 1 <| oIld 2 <| oIld 3 <| oI (-1) <| oC5 (cL_X2_replay) <| oAld 0 <| oC1 (cL_X2_tellNothing) <| oI 0 <| oIst 4 <| oM [true, false, false, false, true] (oTo 26)) else oNo)) else (bif Nat.blt pc 52 then (bif Nat.beq pc 26 then (oIld 4 <| oI 4 <| oCGe 52 <| oAld 0 <| oAld 0 <| oGet (fgL) 2 1 <| oIld 4 <| oC2 (cL_X1_sentOf) <| oI2l <| oC2 (cL_X2_tellMore) <| oInc 4 1 <| oM [true, false, false, false, true] (oTo 26)) else oNo) else (bif Nat.beq pc 52 then (oAld 0 <| oAld 0 <| oGet (fgL) 2 1 <| oGet (fgL) 1 11 <| oGet (fgL) 0 3 <| oI2l <| oC2 (cL_X2_tellMore) <| oAld 0 <| oAld 0 <| oGet (fgL) 2 1 <| oGet (fgL) 1 5 <| oI2l <| oC2 (cL_X2_tellMore) <| oAld 0 <| oGet (fgL) 2 1 <| oGet (fgL) 1 8 <| oIret) else oNo))
theorem tX2_again_ok : ∀ pc, bOk (encL) (bdL) mX2_again 0 0 pc (tX2_again pc) := fun pc => (tNode (tNode (tLeaf (okIldn iX2_again_0 rfl <| okIldn iX2_again_1 rfl <| okIldn iX2_again_2 rfl <| okC3 (qL_X2_areSettings iX2_again_3) <| okZNe (tl rfl) iX2_again_6 <| okIc iX2_again_9 <| okIret iX2_again_10 rfl)) (tLeaf (okAldn iX2_again_11 rfl <| okIldn iX2_again_12 rfl <| okIldn iX2_again_13 rfl <| okIldn iX2_again_14 rfl <| okIc iX2_again_15 <| okC5 (qL_X2_replay iX2_again_16) <| okAldn iX2_again_19 rfl <| okC1 (qL_X2_tellNothing iX2_again_20) <| okIc iX2_again_23 <| okIst iX2_again_24 (by decide) <| okM (okTo (tl rfl))))) (tNode (tLeaf (okIld iX2_again_26 <| okIc iX2_again_28 <| okCGe (tl rfl) iX2_again_29 <| okAldn iX2_again_32 rfl <| okAldn iX2_again_33 rfl <| okGet (vFgL) iX2_again_34 <| okIld iX2_again_37 <| okC2 (qL_X1_sentOf iX2_again_39) <| okI2l iX2_again_42 <| okC2 (qL_X2_tellMore iX2_again_43) <| okInc iX2_again_46 (by decide) <| okGotoM (tl rfl) iX2_again_49)) (tLeaf (okAldn iX2_again_52 rfl <| okAldn iX2_again_53 rfl <| okGet (vFgL) iX2_again_54 <| okGet (vFgL) iX2_again_57 <| okGet (vFgL) iX2_again_60 <| okI2l iX2_again_63 <| okC2 (qL_X2_tellMore iX2_again_64) <| okAldn iX2_again_67 rfl <| okAldn iX2_again_68 rfl <| okGet (vFgL) iX2_again_69 <| okGet (vFgL) iX2_again_72 <| okI2l iX2_again_75 <| okC2 (qL_X2_tellMore iX2_again_76) <| okAldn iX2_again_79 rfl <| okGet (vFgL) iX2_again_80 <| okGet (vFgL) iX2_again_83 <| okIret iX2_again_86 rfl)))) pc
theorem lTell_w {s : LSt} {x : Int} : (lTell s x).2.2 = s.2.2 := by
  unfold lTell
  split <;> rfl
theorem lTell_n {s : LSt} {x : Int} (h : 0 ≤ s.1 3) : 0 ≤ (lTell s x).1 3 := by
  unfold lTell
  split
  · show 0 ≤ s.1 3 + 1
    omega
  · exact h
def agL2 : Nat → Int → LSt → LSt
  | 0, _, s => s
  | m + 1, k, s => agL2 m (k + 1) (lTell s (wSentOf (s.2.2 1) k))
def fAgain (s : LSt) (g l e : Int) : Int × LSt := if okSet g l e then
  let s1 := lReplay s g l e (-1)
  (((s1.2.2 1).1 8), lTell (lTell (agL2 4 0 (setS s1 3 0)) (wZ (s1.2.2 1) 1)) ((s1.2.2 1).1 5)) else (-1, s)
theorem agL2_w : ∀ (m : Nat) (k : Int) (s : LSt), (agL2 m k s).2.2 = s.2.2
  | 0, _, _ => rfl
  | m + 1, k, s => by rw [agL2, agL2_w m]; exact lTell_w
theorem agL2_n : ∀ (m : Nat) (k : Int) (s : LSt), 0 ≤ s.1 3 → 0 ≤ (agL2 m k s).1 3
  | 0, _, _, h => h
  | m + 1, k, s, h => by rw [agL2]; exact agL2_n m _ _ (lTell_n h)
theorem X2_again_loop {K : KL} {Pt : LSt → Prop} : ∀ (m : Nat) (k : Int) (s : LSt), 0 ≤ s.1 3 → 0 ≤ k → k ≤ 4 → m = (4 - k).toNat → K [pI (((s.2.2 1).1 8))] (lTell (lTell (agL2 m k s) (wZ (s.2.2 1) 1)) ((s.2.2 1).1 5)) → wX encL bdL mX2_again 0 0 K Pt 26 [some (pR 0), none, none, none, some (pI k)] [] s := by
  intro m
  induction m with
  | zero =>
    intro k s hn h0 h1 hm hK
    refine wx_Jb [26] 9 tX2_again_ok rfl (fun hb J hR hJ => ?_)
    rw [agL2] at hK
    have hz : xB (wZ (s.2.2 1) 1) := ((hb.2.2 1).2 1).1
    have e1 : (lTell s (wZ (s.2.2 1) 1)).2.2 = s.2.2 := lTell_w
    have e2 : (lTell (lTell s (wZ (s.2.2 1) 1)) ((s.2.2 1).1 5)).2.2 = s.2.2 := lTell_w.trans e1
    have hn2 : 0 ≤ (lTell s (wZ (s.2.2 1) 1)).1 3 := lTell_n hn
    refine ⟨⟨⟨by omega, by omega⟩, ⟨by omega, by omega⟩⟩, fun _ => ?_, fun c => absurd c (by omega)⟩
    intro _
    refine ⟨hz, ⟨hz, hn⟩, fun b5 => ⟨b5, ⟨b5, hn2⟩, fun b8 => ?_⟩⟩
    refine hR _ _ ?_
    have hK2 : K [pI ((((lTell (lTell s (wZ (s.2.2 1) 1)) (((lTell s (wZ (s.2.2 1) 1)).2.2 1).1 5)).2.2 1).1 8))] (lTell (lTell s (wZ (s.2.2 1) 1)) (((lTell s (wZ (s.2.2 1) 1)).2.2 1).1 5)) := by
      rw [lTell_w, e1]; exact hK
    exact hK2
  | succ m ih =>
    intro k s hn h0 h1 hm hK
    refine wx_J [26] 9 tX2_again_ok rfl (fun J hR hJ => ?_)
    rw [agL2] at hK
    have e1 : (lTell s (wSentOf (s.2.2 1) k)).2.2 = s.2.2 := lTell_w
    have g := ih (k + 1) (lTell s (wSentOf (s.2.2 1) k)) (lTell_n hn) (by omega) (by omega) (by omega) (by rw [e1]; exact hK)
    repeat' (first | (refine And.intro ?_ ?_) | intro _)
    all_goals first | omega | exact hJ _ _ _ _ g
def sX2_again : Int → Int → Int → LSt → KL → Prop := fun g l e s K => (xB g ∧ xB l ∧ xB e ∧ lok s) ∧ K [pI (fAgain s g l e).1] (fAgain s g l e).2
theorem mX2_again_ok : mOk encL bdL mX2_again (atR 0 (a3 sX2_again)) := by
  refine mOVa3 kX2_again (fun _ _ _ => rfl) (fun g l e s K h hb => wx_J [26] 9 tX2_again_ok rfl (fun J hR hJ => ?_))
  obtain ⟨⟨h1, h2, h3, h5⟩, hK⟩ := h
  have hw := h5.2.2.2 0 (by decide)
  have hw1 := h5.2.2.2 1 (by decide)
  unfold fAgain at hK
  refine ⟨⟨h1, h2, h3⟩, fun c => ?_, fun c => ?_⟩
  · rw [if_pos c] at hK
    have q := X2_again_loop (K := K) (Pt := fun _ => False) 4 0 (setS (lReplay s g l e (-1)) 3 0) (by show (0 : Int) ≤ 0; omega) (by omega) (by omega) (by omega) hK
    exact ⟨⟨by omega, by omega⟩, fun _ => ⟨⟨h1, h2, h3, ⟨by omega, by omega⟩, hw, hw1⟩, hJ _ _ _ _ q⟩, fun q => absurd q (by omega)⟩
  · rw [if_neg c] at hK
    exact ⟨⟨by omega, by omega⟩, fun q => absurd rfl q, fun _ => hR _ _ hK⟩
