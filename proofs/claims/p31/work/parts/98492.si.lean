/-! ===== texts: events of the model, reading ===== -/
-- X3_events: heads [11, 72]
def tX3_events : Nat → Blk MS := fun pc => bif Nat.blt pc 72 then (bif Nat.blt pc 38 then (bif Nat.blt pc 11 then (bif Nat.beq pc 0 then (oAld 0 <| oI 0 <| oPut (fpM) 3 0 <| oAld 0 <| oC1 (cM_X3_reads) <| oI 0 <| oIst 1 <| oM [true, true, false, false] (oTo 11)) else oNo) else (bif Nat.beq pc 11 then (oAld 0 <| oGet (fgM) 3 5 <| oAld 0 <| oGet (fgM) 3 6 <| oCGe 44 <| oAld 0 <| oIld 1 <| oI 0 <| oC3 (cM_X3_readsEvent) <| oZNe 38 <| oI (-1) <| oAld 0 <| oGet (fgM) 3 5 <| oSub <| oIret) else oNo)) else (bif Nat.blt pc 44 then (bif Nat.beq pc 38 then (oInc 1 1 <| oM [true, true, false, false] (oTo 11)) else oNo) else (bif Nat.blt pc 62 then (bif Nat.beq pc 44 then (oAld 0 <| oI 0 <| oI 6 <| oC3 (cM_X3_of) <| oIld 1 <| oAdd <| oI 160 <| oCLe 62 <| oI (-3) <| oIret) else oNo) else (bif Nat.beq pc 62 then (oAld 0 <| oI 0 <| oI 3 <| oC3 (cM_X3_copies) <| oI 0 <| oIst 2 <| oI 0 <| oIst 3 <| oM [true, true, true, true] (oTo 72)) else oNo)))) else (bif Nat.blt pc 116 then (bif Nat.blt pc 115 then (bif Nat.beq pc 72 then (oIld 3 <| oIld 1 <| oCGe 127 <| oIld 2 <| oAld 0 <| oI 0 <| oAld 0 <| oGet (fgM) 3 13 <| oIld 3 <| oIa (agM) <| oAld 0 <| oGet (fgM) 3 14 <| oIld 3 <| oIa (agM) <| oAld 0 <| oGet (fgM) 3 15 <| oIld 3 <| oIa (agM) <| oAld 0 <| oGet (fgM) 3 16 <| oIld 3 <| oIa (agM) <| oC6 (cM_X3_comes) <| oI 2 <| oCGe 115 <| oI 1 <| oTo 116) else oNo) else (bif Nat.beq pc 115 then (oI 0 <| oTo 116) else oNo)) else (bif Nat.blt pc 127 then (bif Nat.beq pc 116 then (oC1 (cM_X3_flag) <| oAdd <| oIst 2 <| oInc 3 1 <| oM [true, true, true, true] (oTo 72)) else oNo) else (bif Nat.blt pc 147 then (bif Nat.beq pc 127 then (oAld 0 <| oI 0 <| oAld 0 <| oI 3 <| oI 7 <| oC3 (cM_X3_of) <| oC3 (cM_X3_entersSince) <| oIld 1 <| oZLe 147 <| oAld 0 <| oC1 (cM_X3_lays) <| oTo 147) else oNo) else (bif Nat.beq pc 147 then (oIld 2 <| oIret) else oNo))))
theorem tX3_events_ok : ∀ pc, bOk (encM) (bdM) mX3_events 0 0 pc (tX3_events pc) := fun pc => (tNode (tNode (tNode (tLeaf (okAldn iX3_events_0 rfl <| okIc iX3_events_1 <| okPut (vFpM) iX3_events_2 <| okAldn iX3_events_5 rfl <| okC1 (qM_X3_reads iX3_events_6) <| okIc iX3_events_9 <| okIstn iX3_events_10 rfl (by decide) <| okM (okTo (tl rfl)))) (tLeaf (okAldn iX3_events_11 rfl <| okGet (vFgM) iX3_events_12 <| okAldn iX3_events_15 rfl <| okGet (vFgM) iX3_events_16 <| okCGe (tl rfl) iX3_events_19 <| okAldn iX3_events_22 rfl <| okIldn iX3_events_23 rfl <| okIc iX3_events_24 <| okC3 (qM_X3_readsEvent iX3_events_25) <| okZNe (tl rfl) iX3_events_28 <| okIc iX3_events_31 <| okAldn iX3_events_32 rfl <| okGet (vFgM) iX3_events_33 <| okSub iX3_events_36 <| okIret iX3_events_37 rfl))) (tNode (tLeaf (okInc iX3_events_38 (by decide) <| okGotoM (tl rfl) iX3_events_41)) (tNode (tLeaf (okAldn iX3_events_44 rfl <| okIc iX3_events_45 <| okBi iX3_events_46 (by decide) <| okC3 (qM_X3_of iX3_events_48) <| okIldn iX3_events_51 rfl <| okAdd iX3_events_52 <| okSi iX3_events_53 (by decide) <| okCLe (tl rfl) iX3_events_56 <| okBi iX3_events_59 (by decide) <| okIret iX3_events_61 rfl)) (tLeaf (okAldn iX3_events_62 rfl <| okIc iX3_events_63 <| okIc iX3_events_64 <| okC3 (qM_X3_copies iX3_events_65) <| okIc iX3_events_68 <| okIstn iX3_events_69 rfl (by decide) <| okIc iX3_events_70 <| okIstn iX3_events_71 rfl (by decide) <| okM (okTo (tl rfl))))))) (tNode (tNode (tLeaf (okIldn iX3_events_72 rfl <| okIldn iX3_events_73 rfl <| okCGe (tl rfl) iX3_events_74 <| okIldn iX3_events_77 rfl <| okAldn iX3_events_78 rfl <| okIc iX3_events_79 <| okAldn iX3_events_80 rfl <| okGet (vFgM) iX3_events_81 <| okIldn iX3_events_84 rfl <| okIa (vAgM) iX3_events_85 <| okAldn iX3_events_86 rfl <| okGet (vFgM) iX3_events_87 <| okIldn iX3_events_90 rfl <| okIa (vAgM) iX3_events_91 <| okAldn iX3_events_92 rfl <| okGet (vFgM) iX3_events_93 <| okIldn iX3_events_96 rfl <| okIa (vAgM) iX3_events_97 <| okAldn iX3_events_98 rfl <| okGet (vFgM) iX3_events_99 <| okIldn iX3_events_102 rfl <| okIa (vAgM) iX3_events_103 <| okC6 (qM_X3_comes iX3_events_104) <| okIc iX3_events_107 <| okCGe (tl rfl) iX3_events_108 <| okIc iX3_events_111 <| okGoto (tl rfl) iX3_events_112)) (tLeaf (okIc iX3_events_115 <| okTo (tl rfl)))) (tNode (tLeaf (okC1 (qM_X3_flag iX3_events_116) <| okAdd iX3_events_119 <| okIstn iX3_events_120 rfl (by decide) <| okInc iX3_events_121 (by decide) <| okGotoM (tl rfl) iX3_events_124)) (tNode (tLeaf (okAldn iX3_events_127 rfl <| okIc iX3_events_128 <| okAldn iX3_events_129 rfl <| okIc iX3_events_130 <| okBi iX3_events_131 (by decide) <| okC3 (qM_X3_of iX3_events_133) <| okC3 (qM_X3_entersSince iX3_events_136) <| okIldn iX3_events_139 rfl <| okZLe (tl rfl) iX3_events_140 <| okAldn iX3_events_143 rfl <| okC1 (qM_X3_lays iX3_events_144) <| okTo (tl rfl))) (tLeaf (okIldn iX3_events_147 rfl <| okIret iX3_events_148 rfl)))))) pc
def reL : Nat → Int → MS → Int × Int × MS
  | 0, n, s => (1, n, s)
  | m + 1, n, s => if s.1 6 ≤ s.1 5 then (1, n, s) else if (gRe s n 0).1 = 0 then (0, n, (gRe s n 0).2) else reL m (n + 1) (gRe s n 0).2
theorem gd.e {s s' : MS} (h : gd s) (g : eF s s') (h5 : 0 ≤ s'.1 5) : gd s' := by
  obtain ⟨a, b, c, d⟩ := h
  have e6 := g.1 6 (by decide)
  have e3 := g.2.1 3 (by decide) (by decide) (by decide) (by decide) (by decide)
  have e5 := g.2.2
  refine ⟨h5, by omega, by omega, ?_⟩
  rw [mg_cong e3]
  exact d
theorem X3_events_r {K : KM} {Pt : MS → Prop} : ∀ (m : Nat) (n : Int) (s : MS), gd s → 0 ≤ n → n ≤ s.1 5 → s.1 6 ≤ s.1 5 + m → ((reL m n s).1 = 0 → K [pI (-1 - (reL m n s).2.2.1 5)] (reL m n s).2.2) → ((reL m n s).1 ≠ 0 → wX encM bdM mX3_events 0 0 K Pt 44 [some (pR 0), some (pI (reL m n s).2.1), none, none] [] (reL m n s).2.2) → wX encM bdM mX3_events 0 0 K Pt 11 [some (pR 0), some (pI n), none, none] [] s := by
  intro m
  induction m with
  | zero =>
    intro n s hg h0 h1 hm k0 k1
    refine wx_J [11, 44] 9 tX3_events_ok rfl (fun J hR hJ => ?_)
    have g := k1 (by show (1 : Int) ≠ 0; decide)
    obtain ⟨g1, g2, g3, g4⟩ := hg
    repeat' (first | (refine And.intro ?_ ?_) | (intro hq; first | (exact absurd hq (by omega)) | skip))
    all_goals first | omega | exact hJ _ _ _ _ g
  | succ m ih =>
    intro n s hg h0 h1 hm k0 k1
    refine wx_J [11, 44] 9 tX3_events_ok rfl (fun J hR hJ => ?_)
    rw [reL] at k0 k1
    by_cases c : s.1 6 ≤ s.1 5
    · rw [if_pos c] at k0 k1
      have g := k1 (by show (1 : Int) ≠ 0; decide)
      obtain ⟨g1, g2, g3, g4⟩ := hg
      repeat' (first | (refine And.intro ?_ ?_) | (intro hq; first | (exact absurd hq (by omega)) | skip))
      all_goals first | omega | exact hJ _ _ _ _ g
    · rw [if_neg c] at k0 k1
      have f := gRe_f s n 0
      have r01 := gRe_01 s n 0
      have e6 := f.1.1 6 (by decide)
      have e5 := f.1.2.2
      by_cases c2 : (gRe s n 0).1 = 0
      · rw [if_pos c2] at k0 k1
        have hK := k0 rfl
        obtain ⟨g1, g2, g3, g4⟩ := hg
        repeat' (first | (refine And.intro ?_ ?_) | (intro hq; first | (exact absurd hq (by omega)) | skip))
        all_goals first | omega | exact hR _ _ hK | contradiction | exact Or.inl rfl
      · rw [if_neg c2] at k0 k1
        have f2 := f.2 (by omega)
        have g := ih (n + 1) _ (hg.e f.1 (by have := hg.1; omega)) (by omega) (by omega) (by omega) k0 k1
        obtain ⟨g1, g2, g3, g4⟩ := hg
        repeat' (first | (refine And.intro ?_ ?_) | (intro hq; first | (exact absurd hq (by omega)) | skip))
        all_goals first | omega | exact hJ _ _ _ _ g | contradiction | exact Or.inl rfl
