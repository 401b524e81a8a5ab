-- 9898.me
section
/-! ===== questions: what they leave alone ===== -/
section QX
variable {x : LSt}
theorem qx_W {w : WS} (h : lok x) (hw : wok w) : Qx x (setW x 1 w) := by
  refine ⟨(ql_W h hw).1, ⟨rfl, rfl, rfl, rfl⟩, rfl, fun q hq => ?_⟩
  show (bif Nat.beq q 1 then w else x.2.2 q) = _
  rw [bqF hq]; rfl
theorem qx_A2 {g : Nat → Int} (h : lok x) : Qx x (setA x 2 g) := ⟨h, ⟨rfl, rfl, rfl, rfl⟩, rfl, fun _ _ => rfl⟩
theorem qx_A3 {g : Nat → Int} (h : lok x) : Qx x (setA x 3 g) := ⟨h, ⟨rfl, rfl, rfl, rfl⟩, rfl, fun _ _ => rfl⟩
theorem qx_0 (h : lok x) : Qx x (setS x 3 0) := ⟨(ql_0 h).1, ⟨rfl, rfl, rfl, rfl⟩, rfl, fun _ _ => rfl⟩
theorem qx_T {v : Int} (h : lok x) : Qx x (lTell x v) := by
  refine ⟨(ql_T h).1, ?_⟩
  unfold lTell
  split
  · exact ⟨⟨rfl, rfl, rfl, rfl⟩, rfl, fun _ _ => rfl⟩
  · exact ⟨⟨rfl, rfl, rfl, rfl⟩, rfl, fun _ _ => rfl⟩
theorem qx_1 {a : Int} (h : lok x) : Qx x (lTell1 x a) := (qx_0 h).trans (qx_T (qx_0 h).1)
theorem qx_2 {a b : Int} (h : lok x) : Qx x (lTell2 x a b) := (qx_1 h).trans (qx_T (qx_1 h).1)
theorem qx_3 {a b c : Int} (h : lok x) : Qx x (lTell3 x a b c) := (qx_2 h).trans (qx_T (qx_2 h).1)
theorem qx_at {k t : Int} (h : lok x) : Qx x (fAt x k t).2 := by
  unfold fAt
  split
  · split
    · exact Qx.self h
    · exact qx_1 h
  · exact Qx.self h
theorem qx_sent {k : Int} (h : lok x) : Qx x (fSent x k).2 := by
  unfold fSent
  split
  · exact qx_1 h
  · exact Qx.self h
theorem qx_closed {k : Int} (h : lok x) : Qx x (fClosed x k).2 := by
  unfold fClosed
  split
  · exact qx_3 h
  · exact Qx.self h
theorem qx_taken (h : lok x) : Qx x (fTaken x).2 := qx_3 h
theorem qx_would {k t v r : Int} (h : lok x) : Qx x (fWould x k t v r).2 := by
  unfold fWould
  split
  · have q := qx_W h (wok_Copy (h.2.2.2 1 (by decide)) (h.2.2.2 0 (by decide)))
    have q2 := q.trans (qx_W q.1 (wok_PlayE (k := k) (t := t) (v := v) (r := r) (q.1.2.2.2 1 (by decide))))
    exact q2.trans (qx_2 q2.1)
  · exact Qx.self h
theorem qx_rd (n : Int) : ∀ (m : Nat) (i : Int) (x : LSt), lok x → Qx x (rdL n m i x)
  | 0, _, _, h => Qx.self h
  | m + 1, i, x, h => by
    rw [rdL]
    have q := qx_W h (wok_P (t := 0) (i := i) (c := 1) (v := wG (x.2.2 0) 0 i 1) (by decide) (h.2.2.2 1 (by decide)))
    exact q.trans (qx_rd n m (i + 1) _ q.1)
theorem qx_rp (lo : Int) : ∀ (m : Nat) (i : Int) (x : LSt), lok x → Qx x (rpL lo m i x)
  | 0, _, _, h => Qx.self h
  | m + 1, i, x, h => by
    rw [rpL]
    split
    · exact qx_rp lo m (i + 1) x h
    · have q := qx_W h (wok_PlayN (g := ((x.2.2 0).2 4).2) (i := i) (h.2.2.2 1 (by decide)))
      exact q.trans (qx_rp lo m (i + 1) _ q.1)
theorem qx_Replay {g l e lo : Int} (h : lok x) : Qx x (lReplay x g l e lo) := by
  unfold lReplay lRep2
  dsimp only
  have q1 := qx_W h (wok_Reset (n := wZ (x.2.2 0) 0) (g := g) (l := l) (e := e) (h.2.2.2 1 (by decide)))
  have q2 := q1.trans (qx_rd (wZ (x.2.2 0) 0) (wZ (x.2.2 0) 0).toNat 0 _ q1.1)
  generalize rdL (wZ (x.2.2 0) 0) (wZ (x.2.2 0) 0).toNat 0 (setW x 1 (wReset (x.2.2 1) (wZ (x.2.2 0) 0) g l e)) = u at q2 ⊢
  split
  · have q3 := q2.trans (qx_W q2.1 (wok_P (t := 0) (i := lo) (c := 2) (v := 1) (by decide) (q2.1.2.2.2 1 (by decide))))
    exact q3.trans (qx_rp lo _ 0 _ q3.1)
  · exact q2.trans (qx_rp lo _ 0 _ q2.1)
theorem qx_without {r : Int} (h : lok x) : Qx x (fWithout x r).2 := by
  unfold fWithout
  split
  · split
    · exact Qx.self h
    · have q := qx_Replay (g := (x.2.2 0).1 0) (l := (x.2.2 0).1 1) (e := (x.2.2 0).1 2) (lo := r) h
      exact q.trans (qx_3 q.1)
  · exact Qx.self h
theorem qx_ag2 : ∀ (m : Nat) (k : Int) (x : LSt), lok x → Qx x (agL2 m k x)
  | 0, _, _, h => Qx.self h
  | m + 1, k, x, h => by
    rw [agL2]
    exact (qx_T h).trans (qx_ag2 m (k + 1) _ (qx_T h).1)
theorem qx_again {g l e : Int} (h : lok x) : Qx x (fAgain x g l e).2 := by
  unfold fAgain
  split
  · have q := qx_Replay (g := g) (l := l) (e := e) (lo := -1) h
    have q2 := q.trans (qx_0 q.1)
    have q3 := q2.trans (qx_ag2 4 0 _ q2.1)
    have q4 := q3.trans (qx_T (v := wZ ((lReplay x g l e (-1)).2.2 1) 1) q3.1)
    exact q4.trans (qx_T q4.1)
  · exact Qx.self h
theorem qx_stands (h : lok x) : Qx x (fStands x).2 := qx_2 h
theorem qx_kn (k : Int) : ∀ (m : Nat) (i t : Int) (x : LSt), lok x → Qx x (knL k m i t x).2
  | 0, _, _, _, h => Qx.self h
  | m + 1, i, t, x, h => by
    rw [knL]
    exact (qx_T h).trans (qx_kn k m (i + 1) _ _ (qx_T h).1)
theorem qx_kinds {k : Int} (h : lok x) : Qx x (fKinds x k).2 := by
  unfold fKinds
  split
  · have q := (qx_0 h).trans (qx_kn k 4 0 0 _ (qx_0 h).1)
    exact q.trans (qx_T q.1)
  · exact Qx.self h
theorem qx_slow (h : lok x) : Qx x (fSlow x).2 := by
  unfold fSlow fSlow2
  split
  · exact Qx.self h
  · exact qx_2 h
theorem qx_holds (h : lok x) : Qx x (fHolds x).2 := qx_2 h
theorem qx_next (h : lok x) : Qx x (fNext x).2 := by
  unfold fNext fNext2
  split
  · exact Qx.self h
  · exact qx_1 h
theorem qx_ahead {p : Int} (h : lok x) : Qx x (fAhead x p).2 := by
  unfold fAhead
  split
  · split
    · exact Qx.self h
    · exact qx_1 h
  · exact Qx.self h
theorem qx_latest (h : lok x) : Qx x (fLatest x).2 := qx_1 h
theorem qx_span {f t : Int} (h : lok x) : Qx x (fSpan x f t).2 := by
  unfold fSpan
  split
  · exact qx_3 h
  · exact Qx.self h
theorem qx_ins (t i : Int) : ∀ (p : Nat) (x : LSt), lok x → Qx x (insL t i p x)
  | 0, x, h => qx_A2 h
  | p + 1, x, h => by
    rw [insL]
    split
    · exact (qx_A2 h).trans (qx_ins t i p _ (qx_A2 h).1)
    · exact qx_A2 h
theorem qx_srt (k : Int) : ∀ (m : Nat) (i : Int) (n : Nat) (x : LSt), lok x → Qx x (srtL k m i n x).2
  | 0, _, _, _, h => Qx.self h
  | m + 1, i, n, x, h => by
    rw [srtL]
    split
    · have q := qx_ins (wG (x.2.2 0) 4 i 2) i n x h
      exact q.trans (qx_srt k m (i + 1) (n + 1) _ q.1)
    · exact qx_srt k m (i + 1) n x h
theorem qx_Sort {k : Int} (h : lok x) : Qx x (lSort x k).2 := qx_srt k _ 0 0 x h
theorem qx_batch {k : Int} (h : lok x) : Qx x (fBatch x k).2 := by
  unfold fBatch
  split
  · exact (qx_Sort h).trans (qx_3 (qx_Sort h).1)
  · exact Qx.self h
theorem qx_yr (r : Int) : ∀ (m : Nat) (d : Int) (x : LSt), lok x → Qx x (yrL r m d x)
  | 0, _, _, h => Qx.self h
  | m + 1, d, x, h => by
    rw [yrL]
    have q := qx_W h (wok_PlayE (k := dOf (dAfter d) 6) (t := max 0 (min 9999 (wI (wI ((x.2.2 1).1 3 - (x.2.2 1).1 1) + dOf (dAfter (dAfter d)) 100)))) (v := wI (dOf (dAfter (dAfter (dAfter d))) 199 - 99)) (r := dOf (dAfter (dAfter (dAfter (dAfter d)))) r) (h.2.2.2 1 (by decide)))
    exact q.trans (qx_yr r m _ _ q.1)
theorem qx_years {d n : Int} (h : lok x) : Qx x (fYears x d n).2 := by
  unfold fYears
  split
  · have q := qx_W h (wok_Copy (h.2.2.2 1 (by decide)) (h.2.2.2 0 (by decide)))
    have q2 := q.trans (qx_yr (max 1 (wZ (x.2.2 0) 0)) (min n (wI (160 - wZ (x.2.2 0) 4))).toNat d _ q.1)
    exact q2.trans (qx_2 q2.1)
  · exact Qx.self h
theorem qx_pt (n : Int) : ∀ (m : Nat) (k : Int) (x : LSt), lok x → Qx x (ptL n m k x)
  | 0, _, _, h => Qx.self h
  | m + 1, k, x, h => by
    rw [ptL]
    split
    · exact (qx_A3 h).trans (qx_pt n m (k + 1) _ (qx_A3 h).1)
    · exact qx_pt n m (k + 1) x h
theorem qx_parts {k n : Int} (h : lok x) : Qx x (fParts x k n).2 := by
  unfold fParts
  split
  · split
    · exact qx_Sort h
    · have q := (qx_Sort (k := k) h).trans (qx_A3 (g := fun j => if j < 101 then 0 else (lSort x k).2.2.1 3 j) (qx_Sort (k := k) h).1)
      exact q.trans (qx_pt _ _ 0 _ q.1)
  · exact Qx.self h
end QX
section QN
variable {m : MS}
theorem Inv.n0 (h : Inv m) {v : Int} : Qn m (mS m 0 v) := ⟨h.s0, rfl, rfl, fun _ _ _ => rfl⟩
theorem Qn.e1 {m' : MS} (q : Qn m m') {a : Int} : Qn m (mEn (mS m' 1 0) a) := ⟨en1 q.1, q.2.1, q.2.2.1, fun y y0 hy => q.2.2.2 y y0 hy⟩
theorem Qn.e2 {m' : MS} (q : Qn m m') {a b : Int} : Qn m (mEn (mEn (mS m' 1 0) a) b) := ⟨en2 q.1, q.2.1, q.2.2.1, fun y y0 hy => q.2.2.2 y y0 hy⟩
theorem Qn.e3 {m' : MS} (q : Qn m m') {a b c : Int} : Qn m (mEn (mEn (mEn (mS m' 1 0) a) b) c) := ⟨en3 q.1, q.2.1, q.2.2.1, fun y y0 hy => q.2.2.2 y y0 hy⟩
theorem qn_source {r a : Int} (h : Inv m) : Qn m (gSource m r a).2 := by
  unfold gSource
  split <;> exact h.n0
theorem qn_session {r a : Int} (h : Inv m) : Qn m (gSession m r a).2 := by
  unfold gSession
  split <;> exact h.n0
theorem qn_message {r a : Int} (h : Inv m) : Qn m (gMessage m r a).2 := by
  unfold gMessage
  split <;> exact h.n0
theorem qn_finals {r a : Int} (h : Inv m) : Qn m (gFinals m r a).2 := by
  unfold gFinals
  split <;> exact h.n0
theorem qn_input {r a : Int} (h : Inv m) : Qn m (gInput m r a).2 := by
  unfold gInput
  split <;> exact h.n0
theorem qn_row {r : Int} (h : Inv m) : Qn m (gRow m r).2 := by
  unfold gRow
  split <;> exact h.n0
theorem qn_taken (h : Inv m) : Qn m (gTaken m).2 := h.n0.e3
theorem qn_sent {k : Int} (h : Inv m) : Qn m (gSent m k).2 := by
  unfold gSent
  split
  · exact h.n0.e1
  · exact h.n0
theorem qn_closed {k : Int} (h : Inv m) : Qn m (gClosed m k).2 := by
  unfold gClosed
  split
  · exact h.n0.e3
  · exact h.n0
theorem qn_at {k t : Int} (h : Inv m) : Qn m (gAt m k t).2 := by
  unfold gAt
  split
  · unfold gAt2
    split
    · exact h.n0
    · exact h.n0.e1
  · exact h.n0
theorem qn_stands (h : Inv m) : Qn m (gStands m).2 := h.n0.e2
theorem qn_kinds {k : Int} (h : Inv m) : Qn m (gKinds m k).2 := by
  unfold gKinds
  split
  · exact ⟨h.s0.trans (h.s0.1.cong ⟨by show (0 : Int) ≤ 0 + 1 + 1 + 1 + 1 + 1; decide, by show (0 : Int) + 1 + 1 + 1 + 1 + 1 ≤ 16; decide⟩ rfl rfl rfl rfl), rfl, rfl, fun _ _ _ => rfl⟩
  · exact h.n0
theorem qn_holds (h : Inv m) : Qn m (gHolds m).2 := h.n0.e2
theorem qn_next (h : Inv m) : Qn m (gNext m).2 := by
  unfold gNext gNext0 gNx2
  split
  · exact h.n0
  · exact h.n0.e1
theorem qn_ahead {p : Int} (h : Inv m) : Qn m (gAhead m p).2 := by
  unfold gAhead gAhead0
  split
  · split
    · exact h.n0
    · exact h.n0.e1
  · exact h.n0
/-- idle ones tried and put back -/
theorem slM_same : ∀ (n : Nat) (r b q : Int) (s : MS), 0 ≤ r → r + n ≤ 4 → (∀ j : Int, 0 ≤ j → j < 4 → mg s (20 + j) = 0 ∨ mg s (20 + j) = 1) → ∀ y : Int, 0 ≤ y → mg (slM n r b q s).2.2 y = mg s y
  | 0, _, _, _, _, _, _, _, _, _ => rfl
  | n + 1, r, b, q, s, h0, h1, hi, y, y0 => by
    rw [slM]
    by_cases c : mg s (0 * 2804 + (20 + r)) = 1
    · rw [if_pos c]
      exact slM_same n (r + 1) b q s (by omega) (by omega) hi y y0
    · rw [if_neg c]
      have e : ∀ y : Int, 0 ≤ y → mg (slS s r) y = mg s y := fun y y0 => by
        unfold slS
        by_cases c2 : y = 0 * 2804 + (20 + r)
        · subst c2
          have := hi r h0 (by omega)
          rw [show 20 + r = 0 * 2804 + (20 + r) by omega] at this
          rw [mg_eq, this.resolve_right c]
        · rw [mg_ne (by omega) y0 (fun z => c2 z.symm), mg_ne (by omega) y0 (fun z => c2 z.symm)]
      have hi2 : ∀ j : Int, 0 ≤ j → j < 4 → mg (slS s r) (20 + j) = 0 ∨ mg (slS s r) (20 + j) = 1 := fun j j0 j1 => by
        rw [e _ (by omega)]
        exact hi j j0 j1
      split
      · rw [slM_same n (r + 1) r _ (slS s r) (by omega) (by omega) hi2 y y0, e y y0]
      · rw [slM_same n (r + 1) b q (slS s r) (by omega) (by omega) hi2 y y0, e y y0]
theorem qn_slow (h : Inv m) (hi : ∀ j : Int, 0 ≤ j → j < 4 → mg m (20 + j) = 0 ∨ mg m (20 + j) = 1) : Qn m (gSlow m).2 := by
  have hz := h.mok
  have hq : mg m (0 * 2804 + 0) = mg m 0 := rfl
  have g := slM_ok (mg m (0 * 2804 + 0)).toNat 0 (-1) 0 (mS m 0 0) (by decide) (by have := hz.2; omega)
  have g2 := slM_same (mg m (0 * 2804 + 0)).toNat 0 (-1) 0 (mS m 0 0) (by decide) (by have := hz.2; omega) hi
  unfold gSlow
  generalize slM (mg m (0 * 2804 + 0)).toNat 0 (-1) 0 (mS m 0 0) = p at g g2 ⊢
  have q : Qi m p.2.2 := h.s0.trans (h.s0.1.on0 (h.s0.1.2.2.2.1.of (fun c hc => g.2 _ (by omega) (by omega))) ⟨fun x x0 hx => g.2 x x0 (by omega), g.1.s⟩)
  have n : Qn m p.2.2 := ⟨q, by rw [g.1.1]; rfl, by rw [g.1.2 2 (by decide)]; rfl, fun y y0 _ => g2 y y0⟩
  unfold gSl2
  split
  · exact n
  · exact n.e2
theorem qn_span {f t : Int} (h : Inv m) : Qn m (gSpO (mS m 0 0) f t 6 0 0 0 (-1) 0).2 := by
  obtain ⟨x, y, w, e⟩ := gSpO_ok f t (mS m 0 0) 6 0 0 0 (-1) 0
  rw [e]
  exact h.n0.e3
theorem Qn.lt {m' u : MS} (q : Qn m m') (t : tF m' u) : Qn m u :=
  ⟨q.1.trans (q.1.1.lt t), (t.1 8 (by decide)).trans q.2.1, (t.2 2 (by decide) (by decide)).trans q.2.2.1, fun y y0 hy => (mg_cong (t.2 3 (by decide) (by decide)) y).trans (q.2.2.2 y y0 hy)⟩
theorem qn_parts {k : Int} (h : Inv m) : Qn m (gLt (mS m 0 0) k) := h.n0.lt (gLt_f _ _)
theorem baN_e (g : Int) : ∀ (n : Nat) (k mc ms ho co su an : Int) (s : MS), ∃ a b c, (baN s g n k mc ms ho co su an).2 = mEn (mEn (mEn (mS s 1 0) a) b) c
  | 0, _, _, _, _, _, _, _, _ => ⟨_, _, _, rfl⟩
  | n + 1, k, mc, ms, ho, co, su, an, s => by
    rw [baN]
    split
    · exact ⟨_, _, _, rfl⟩
    · exact baN_e g n _ _ _ _ _ _ _ s
theorem qn_batch {k : Int} (h : Inv m) : Qn m (gBa (gLt (mS m 0 0) k)).2 := by
  have q := qn_parts (k := k) h
  generalize gLt (mS m 0 0) k = u at q
  obtain ⟨a, b, c, e⟩ := baN_e (mg u (0 * 2804 + 1)) 160 0 (-1) (-1) (-1) 0 0 0 u
  unfold gBa
  rw [e]
  exact q.e3
theorem Inv.n4 {m' : MS} (h : Inv m) (o : oD 4 m m') : Qn m m' := ⟨h.on4 o, o.2.1 8 (by decide) (by decide) (by decide), o.2.2 2 (by decide) (by decide), fun y y0 hy => o.1 y y0 (by omega)⟩
end QN
end
-- 9899.mf
section
/-! ===== calls that change what there is ===== -/
theorem gD0 (s : MS) (c : Int) : gD 0 s c = mg s c := by
  unfold gD
  rw [show (0 : Int) * 2804 + c = c by omega]
theorem rA.to {w : WS} {G : Int → Int} {d : Int} {s' : MS} (h : rA w G) (e : sA d s' G) : rA w (gD d s') := h.cong (fun c c0 _ hc => e c c0 hc)
theorem rA.fate {w : WS} {g : Int → Int} (h : rA w g) (r t : Int) : wFate (wNote w 0 r t) t = hw1 g t := by
  rw [← h.1.fate t]
  unfold wFate
  rw [note_f.1 3, note_f.1 1]
theorem rA.comeM {w : WS} {d k t v r : Int} {s : MS} {K : MS → Prop} (h : rA w (gD d s)) (I : dI d s) (hd : dOk d) (h6 : mg s (d * 2804 + 6) ≤ 159) (hk : 0 ≤ k ∧ k ≤ 5) (ht : 0 ≤ t ∧ t ≤ 9999) (hr : 0 ≤ r ∧ r < gD d s 0) (kk : ∀ s', rA (wComeE w k t v r) (gD d s') → dI d s' → oD d s s' → mg s' (d * 2804 + 6) = mg s (d * 2804 + 6) + 1 → K s') : mComeP s d k t v r 650 K := by
  have hz := h.1.2.2.1
  exact I.comeA hd h6 hk ⟨hr.1, by omega⟩ (fun s' ha i o e => kk s' ((h.event (by show mg s (d * 2804 + 6) < 160; omega) hk ht hr).to ha) i o e)
theorem rA.markM {w : WS} {d t r : Int} {s : MS} {K : MS → Prop} (h : rA w (gD d s)) (I : dI d s) (hd : dOk d) (h6 : mg s (d * 2804 + 6) ≤ 159) (ht : 0 ≤ t ∧ t ≤ 20000) (hr : 0 ≤ r ∧ r < gD d s 0) (hm : gD d s (12 + r) < t) (kk : ∀ s', rA (wComeM w r t) (gD d s') → mg s (d * 2804 + 7) ≤ mg s' (d * 2804 + 7) → dI d s' → oD d s s' → mg s' (d * 2804 + 6) = mg s (d * 2804 + 6) + 1 → K s') : mMarkP s d r t 650 K := by
  have hz := h.1.2.2.1
  exact I.markA hd h6 ⟨hr.1, by omega⟩ (fun s' ha l i o e => kk s' ((h.mark (by show mg s (d * 2804 + 6) < 160; omega) ht hr hm).to ha) l i o e)
theorem rA.idleM {w : WS} {d r : Int} {s : MS} {K : MS → Prop} (h : rA w (gD d s)) (I : dI d s) (hd : dOk d) (h6 : mg s (d * 2804 + 6) ≤ 159) (hr : 0 ≤ r ∧ r < gD d s 0) (kk : ∀ s', rA (wComeI w r) (gD d s') → mg s (d * 2804 + 7) ≤ mg s' (d * 2804 + 7) → dI d s' → oD d s s' → mg s' (d * 2804 + 6) = mg s (d * 2804 + 6) + 1 → K s') : mIdleP s d r 650 K := by
  have hz := h.1.2.2.1
  exact I.idleA hd h6 ⟨hr.1, by omega⟩ (fun s' ha l i o e => kk s' ((h.idle (by show mg s (d * 2804 + 6) < 160; omega) hr).to ha) l i o e)
section EV
variable {x : LSt} {s : MS}
theorem z0_eq (h : rA (x.2.2 0) (gD 0 s)) : wZ (x.2.2 0) 0 = mg s 0 := by
  have := h.1.2.2.1.1
  rw [gD0] at this
  exact this
theorem z6_eq (h : rA (x.2.2 0) (gD 0 s)) : wZ (x.2.2 0) 4 = mg s 6 ∧ 0 ≤ mg s 6 ∧ mg s 6 ≤ 160 := by
  have := h.2.1.1
  rw [gD0] at this
  exact this
theorem src_eq (h : rA (x.2.2 0) (gD 0 s)) {r q c : Int} (hr : 0 ≤ r ∧ r < mg s 0) (hq : 0 ≤ q ∧ q < 5) (hc : c = 12 + 4 * q + r) : wG (x.2.2 0) 0 r q = mg s c := by
  subst hc
  have := h.1.2.2.2 r q hr.1 (by rw [gD0]; exact hr.2) hq.1 hq.2
  rw [gD0] at this
  exact this
theorem idle_eq (h : rA (x.2.2 0) (gD 0 s)) {r : Int} (hr : 0 ≤ r ∧ r < 4) : mg s (20 + r) = 0 ∨ mg s (20 + r) = 1 := by
  have := (h.2.2.1.1.2.2.2.2 r hr.1 hr.2).2.2
  rw [gD0] at this
  exact this
theorem lSrc_iff (h : rA (x.2.2 0) (gD 0 s)) (r : Int) : lSrc x r ↔ mSrc s r := by
  have e := z0_eq h
  constructor
  · intro q
    obtain ⟨a, b⟩ := q
    exact ⟨a, by rw [← e]; exact b⟩
  · intro q
    obtain ⟨a, b⟩ := q
    exact ⟨a, by rw [e]; exact b⟩
theorem lEv_iff (h : rA (x.2.2 0) (gD 0 s)) (k t v r : Int) : lEv x k t v r ↔ mEv s k t v r := by
  have e := lSrc_iff h r
  constructor
  · intro q
    obtain ⟨⟨a, b⟩, c, d, f⟩ := q
    exact ⟨⟨a, by omega⟩, c, d, e.mp f⟩
  · intro q
    obtain ⟨⟨a, b⟩, c, d, f⟩ := q
    exact ⟨⟨a, by omega⟩, c, d, e.mpr f⟩
theorem evP_ok {k t v r : Int} {K : Int → MS → Prop} (h : rA (x.2.2 0) (gD 0 s)) (I : dI 0 s) (k0 : lEvR x k t v r < 0 → K (lEvR x k t v r) s) (kk : ¬ lEvR x k t v r < 0 → ∀ s', rA (wComeE (x.2.2 0) k t v r) (gD 0 s') → dI 0 s' → oD 0 s s' → K (wFate (wNote (x.2.2 0) 0 r t) t) s') : evP s k t v r 650 K := by
  have ev := lEv_iff h k t v r
  obtain ⟨e6, b6⟩ := z6_eq h
  refine ⟨fun q => ?_, fun q => ⟨fun q6 => ?_, fun q6 => ⟨⟨b6.1, by omega⟩, ?_⟩⟩⟩
  · have e : lEvR x k t v r = -1 := if_neg (fun z => q (ev.mp z))
    rw [e] at k0
    exact k0 (by decide)
  · have e : lEvR x k t v r = -3 := by
      unfold lEvR lIn
      rw [if_pos (ev.mpr q), if_pos (by omega)]
    rw [e] at k0
    exact k0 (by decide)
  · have e : ¬ lEvR x k t v r < 0 := by
      unfold lEvR lIn
      rw [if_pos (ev.mpr q), if_neg (by omega)]
      decide
    obtain ⟨⟨a, b⟩, ⟨c, d⟩, -, f⟩ := q
    refine h.comeM I ⟨by decide, by decide⟩ (show mg s 6 ≤ 159 by omega) ⟨a, b⟩ ⟨c, d⟩ ⟨f.1, by rw [gD0]; exact f.2⟩ (fun s' ha i o _ => ?_)
    have hh : mHow s 0 t = wFate (wNote (x.2.2 0) 0 r t) t := (sA.self.how t).trans (h.fate r t).symm
    rw [hh]
    exact kk e s' ha i o
theorem b7_nn {d : Int} {s' : MS} (I : dI 0 s) (I' : dI 0 s') (l : mg s (0 * 2804 + 7) ≤ mg s' (0 * 2804 + 7)) : 0 ≤ wI (mg s' 7 - mg s 7) := by
  have a : 0 ≤ mg s 7 := I.2.2.1.2.1.1
  have b : mg s' 7 ≤ 2700 * mg s' (0 * 2804 + 6) := I'.2.2.1.2.1.2
  have c := I'.2.1.2
  have l : mg s 7 ≤ mg s' 7 := l
  rw [wI_id ⟨by omega, by omega⟩]
  omega
theorem mkP_ok {r t : Int} {K : Int → MS → Prop} (h : rA (x.2.2 0) (gD 0 s)) (I : dI 0 s) (k0 : lMkR x r t < 0 → K (lMkR x r t) s) (kk : ¬ lMkR x r t < 0 → ∀ b s', 0 ≤ b → rA (wComeM (x.2.2 0) r t) (gD 0 s') → dI 0 s' → oD 0 s s' → K b s') : mkP s r t 650 K := by
  have ev := lSrc_iff h r
  have e0 := z0_eq h
  obtain ⟨e6, b6⟩ := z6_eq h
  refine ⟨fun q => ?_, fun q => ⟨fun qm => ?_, fun qm => ⟨fun q6 => ?_, fun q6 => ⟨⟨b6.1, by omega⟩, ?_⟩⟩⟩⟩
  · have e : lMkR x r t = -1 := if_neg (fun z => q ⟨ev.mp z.1, z.2⟩)
    rw [e] at k0
    exact k0 (by decide)
  · have em := src_eq h (q := 0) (c := 12 + r) q.1 (by decide) (by omega)
    have e : lMkR x r t = -2 := by
      unfold lMkR
      rw [if_pos ⟨ev.mpr q.1, q.2⟩, if_pos (by rw [em]; exact qm)]
    rw [e] at k0
    exact k0 (by decide)
  · have em := src_eq h (q := 0) (c := 12 + r) q.1 (by decide) (by omega)
    have e : lMkR x r t = -3 := by
      unfold lMkR lIn
      rw [if_pos ⟨ev.mpr q.1, q.2⟩, if_neg (by rw [em]; omega), if_pos (by omega)]
    rw [e] at k0
    exact k0 (by decide)
  · have em := src_eq h (q := 0) (c := 12 + r) q.1 (by decide) (by omega)
    have e : ¬ lMkR x r t < 0 := by
      unfold lMkR lIn
      rw [if_pos ⟨ev.mpr q.1, q.2⟩, if_neg (by rw [em]; omega), if_neg (by omega)]
      decide
    obtain ⟨f, g⟩ := q
    exact h.markM I ⟨by decide, by decide⟩ (show mg s 6 ≤ 159 by omega) g ⟨f.1, by rw [gD0]; exact f.2⟩ (by rw [gD0]; exact qm) (fun s' ha l i o _ => kk e _ s' (b7_nn (d := 0) I i l) ha i o)
theorem idP_ok {r : Int} {K : Int → MS → Prop} (h : rA (x.2.2 0) (gD 0 s)) (I : dI 0 s) (k0 : lIdR x r < 0 → K (lIdR x r) s) (kk : ¬ lIdR x r < 0 → ∀ b s', 0 ≤ b → rA (wComeI (x.2.2 0) r) (gD 0 s') → dI 0 s' → oD 0 s s' → K b s') : idP s r 650 K := by
  have ev := lSrc_iff h r
  have e0 := z0_eq h
  have i0 := I.1.2
  have i0 : mg s 0 ≤ 4 := i0
  obtain ⟨e6, b6⟩ := z6_eq h
  refine ⟨fun q => ?_, fun q => ⟨fun qm => ?_, fun qm => ⟨fun q6 => ?_, fun q6 => ⟨⟨b6.1, by omega⟩, ?_⟩⟩⟩⟩
  · have e : lIdR x r = -1 := if_neg (fun z => q (ev.mp z))
    rw [e] at k0
    exact k0 (by decide)
  · have em := src_eq h (q := 2) (c := 20 + r) q (by decide) (by omega)
    have e : lIdR x r = -2 := by
      unfold lIdR
      rw [if_pos (ev.mpr q), if_pos (by rw [em]; omega)]
    rw [e] at k0
    exact k0 (by decide)
  · have em := src_eq h (q := 2) (c := 20 + r) q (by decide) (by omega)
    have eb := idle_eq h (r := r) ⟨q.1, by have := q.2; omega⟩
    have e : lIdR x r = -3 := by
      unfold lIdR lIn
      rw [if_pos (ev.mpr q), if_neg (by rw [em]; omega), if_pos (by omega)]
    rw [e] at k0
    exact k0 (by decide)
  · have em := src_eq h (q := 2) (c := 20 + r) q (by decide) (by omega)
    have eb := idle_eq h (r := r) ⟨q.1, by have := q.2; omega⟩
    have e : ¬ lIdR x r < 0 := by
      unfold lIdR lIn
      rw [if_pos (ev.mpr q), if_neg (by rw [em]; omega), if_neg (by omega)]
      decide
    exact h.idleM I ⟨by decide, by decide⟩ (show mg s 6 ≤ 159 by omega) ⟨q.1, by rw [gD0]; exact q.2⟩ (fun s' ha l i o _ => kk e _ s' (b7_nn (d := 0) I i l) ha i o)
end EV
/-- a change behind a state laid by -/
def Aft (m m2 : MS) : Prop := Inv m2 ∧ dI 3 m2 ∧ (m2.1 4 = m.1 4 ∧ m2.1 8 = m.1 8 ∧ m2.2 12 = m.2 12 ∧ m2.2 2 = m.2 2) ∧ (∀ c : Int, 0 ≤ c → c < 2804 → mg m2 (3 * 2804 + c) = mg m (0 * 2804 + c)) ∧ ∀ y : Int, 0 ≤ y → (2804 ≤ y ∧ y < 8412) ∨ 14020 ≤ y → mg m2 y = mg m y
theorem Aft.of {m s' : MS} (I : Inv m) (i : dI 0 s') (o : oD 0 (mCopy m 0 3) s') : Aft m s' := by
  have oc : oD 3 m (mCopy m 0 3) := copy_o (by decide)
  have q3 := I.on3 oc
  have d3 : dI 3 (mCopy m 0 3) := I.2.2.2.1.copy (by decide) (by decide)
  have q := q3.1.on0 i o
  refine ⟨q.1, d3.other (by decide) (by decide) (by decide) o, ⟨(q3.trans q).2.1, ?_, (q3.trans q).2.2, ?_⟩, fun c c0 c1 => ?_, fun y y0 hy => ?_⟩
  · rw [o.2.1 8 (by decide) (by decide) (by decide)]; rfl
  · rw [o.2.2 2 (by decide) (by decide)]; rfl
  · rw [o.1 _ (by omega) (by omega)]
    exact copy_at (by decide) (by decide) c0 c1
  · rw [o.1 y y0 (by omega)]
    exact copy_ne (by decide) y0 (by omega)
theorem Aft.more {m s' u : MS} (a : Aft m s') (e4 : u.1 4 = s'.1 4) (e8 : u.1 8 = s'.1 8) (e1 : 0 ≤ u.1 1 ∧ u.1 1 ≤ 16) (e3 : u.2 3 = s'.2 3) (e12 : u.2 12 = s'.2 12) (e2 : u.2 2 = s'.2 2) : Aft m u := by
  obtain ⟨I, d3, ⟨f4, f8, f12, f2⟩, c3, co⟩ := a
  have q := I.cong e1 e4 e8 e3 e12
  exact ⟨q.1, d3.cong e3, ⟨e4.trans f4, e8.trans f8, e12.trans f12, e2.trans f2⟩, fun c c0 c1 => (mg_cong e3 _).trans (c3 c c0 c1), fun y y0 hy => (mg_cong e3 y).trans (co y y0 hy)⟩
theorem Aft.e2 {m s' : MS} (a : Aft m s') {p q : Int} : Aft m (mEn (mEn (mS s' 1 0) p) q) := a.more rfl rfl ⟨by show (0 : Int) ≤ 0 + 1 + 1; decide, by show (0 : Int) + 1 + 1 ≤ 16; decide⟩ rfl rfl rfl
theorem Aft.e1 {m s' : MS} (a : Aft m s') {p : Int} : Aft m (mEn (mS s' 1 0) p) := a.more rfl rfl ⟨by show (0 : Int) ≤ 0 + 1; decide, by show (0 : Int) + 1 ≤ 16; decide⟩ rfl rfl rfl
theorem lwR.done {x : LSt} {m m2 : MS} {w' : WS} (h : lwR x m) (a : Aft m m2) (hw : rW w' (gD 0 m2)) (ok : wok w') : lwR (setW (lRem x) 0 w') (mLays m2) := by
  obtain ⟨I, d3, ⟨f4, f8, f12, f2⟩, c3, co⟩ := a
  exact h.step I d3 f4 f8 f12 f2 c3 co hw ok
theorem Aft.uok {m m2 : MS} (a : Aft m m2) : uok1 m2 := a.1.2.1
theorem lwR.w0 {x : LSt} {m : MS} (h : lwR x m) : rA (x.2.2 0) (gD 0 m) := h.2.2.2.2.2.2
theorem pre_n {m : MS} (h : Inv m) : Qn m (mCopy m 0 3) := ⟨h.on3 (copy_o (by decide)), rfl, rfl, fun y y0 hy => copy_ne (by decide) y0 (by omega)⟩
theorem lwR.pre {x : LSt} {m : MS} (h : lwR x m) : lwR x (mCopy m 0 3) := h.ask (Qx.self h.1) (pre_n h.2.1)
theorem lwR.s0 {x : LSt} {m : MS} (h : lwR x m) {v : Int} : lwR x (mS m 0 v) := h.ask (Qx.self h.1) h.2.1.n0
theorem rem_0 {x : LSt} (hu : uok x) : (lRem x).2.2 0 = x.2.2 0 := by
  obtain ⟨-, -, -, r⟩ := rem_c hu
  rw [r, if_neg]
  unfold uSl
  omega
section ST
variable {x : LSt} {m : MS} {K : Int → PS → LSt → MS → Prop}
theorem st_event {k t v r : Int} (hk : xB k) (ht : xB t) (hv : xB v) (hr : xB r) (h : lwR x m) (kk : ∀ q x' m', lwR x' m' → K q [pI q] x' m') : sX2_event k t v r x (fun v' x' => ∃ q, v' = [pI q] ∧ sX3_event k t v r m (fun w m' => K q w x' m')) := by
  have h0 := h.s0 (v := 0)
  have hp := h0.pre
  refine ⟨⟨hk, ht, hv, hr, h.1⟩, _, rfl, ⟨⟨hk, ht, hv, hr⟩, hp.2.1.mok⟩, 650, ?_⟩
  refine evP_ok hp.w0 hp.2.1.2.2.2.1 (fun c => ?_) (fun c s' ha i o => ?_)
  · have e : fEvent x k t v r = (lEvR x k t v r, x) := if_pos c
    rw [e]
    exact ⟨fun _ => kk _ _ _ hp, fun q => absurd c (by omega)⟩
  · have e : fEvent x k t v r = (wFate (wNote ((lRem x).2.2 0) 0 r t) t, lTell2 (setW (lRem x) 0 (wComeE ((lRem x).2.2 0) k t v r)) (wI ((wComeE ((lRem x).2.2 0) k t v r).1 4 - ((lRem x).2.2 0).1 4)) ((wComeE ((lRem x).2.2 0) k t v r).1 3)) := if_neg c
    rw [e, rem_0 h.1.1]
    have a := (Aft.of h0.2.1 i o).e2 (p := wI (mg s' (0 * 2804 + 7) - mg s' (3 * 2804 + 7))) (q := mg s' (0 * 2804 + 4))
    have d := h0.done (w' := wComeE (x.2.2 0) k t v r) a (rW.cong ha (fun c _ _ => rfl)) (wok_ComeE (h.1.2.2.2 0 (by decide)))
    refine ⟨fun q => absurd q (by have := wFate_b (wNote (x.2.2 0) 0 r t) t; omega), fun _ => ⟨a.uok, kk _ _ _ (d.ask (qx_2 d.1) (Qn.self d.2.1))⟩⟩
theorem st_marks {r t : Int} (hr : xB r) (ht : xB t) (h : lwR x m) (kk : ∀ q b x' m', lwR x' m' → K q [pI b] x' m') : sX2_marks r t x (fun v' x' => ∃ q, v' = [pI q] ∧ sX3_marks r t m (fun w m' => K q w x' m')) := by
  have h0 := h.s0 (v := 0)
  have hp := h0.pre
  refine ⟨⟨hr, ht, h.1⟩, _, rfl, ⟨⟨hr, ht⟩, hp.2.1.mok⟩, 650, ?_⟩
  refine mkP_ok hp.w0 hp.2.1.2.2.2.1 (fun c => ?_) (fun c b s' hb ha i o => ?_)
  · have e : fMarks x r t = (lMkR x r t, x) := if_pos c
    rw [e]
    exact ⟨fun _ => ⟨hp.2.1.2.1, kk _ _ _ _ hp⟩, fun q => absurd c (by omega)⟩
  · have e : fMarks x r t = (wI ((wComeM ((lRem x).2.2 0) r t).1 4 - ((lRem x).2.2 0).1 4), lTell1 (setW (lRem x) 0 (wComeM ((lRem x).2.2 0) r t)) ((wComeM ((lRem x).2.2 0) r t).1 3)) := if_neg c
    rw [e, rem_0 h.1.1]
    have a := (Aft.of h0.2.1 i o).e1 (p := mg s' 4)
    have d := h0.done (w' := wComeM (x.2.2 0) r t) a (rW.cong ha (fun c _ _ => rfl)) (wok_ComeM (h.1.2.2.2 0 (by decide)))
    exact ⟨fun q => absurd q (by omega), fun _ => ⟨a.uok, kk _ _ _ _ (d.ask (qx_1 d.1) (Qn.self d.2.1))⟩⟩
theorem st_idles {r : Int} (hr : xB r) (h : lwR x m) (kk : ∀ q b x' m', lwR x' m' → K q [pI b] x' m') : sX2_idles r x (fun v' x' => ∃ q, v' = [pI q] ∧ sX3_idles r m (fun w m' => K q w x' m')) := by
  have h0 := h.s0 (v := 0)
  have hp := h0.pre
  refine ⟨⟨hr, h.1⟩, _, rfl, ⟨hr, hp.2.1.mok⟩, 650, ?_⟩
  refine idP_ok hp.w0 hp.2.1.2.2.2.1 (fun c => ?_) (fun c b s' hb ha i o => ?_)
  · have e : fIdles x r = (lIdR x r, x) := if_pos c
    rw [e]
    exact ⟨fun _ => ⟨hp.2.1.2.1, kk _ _ _ _ hp⟩, fun q => absurd c (by omega)⟩
  · have e : fIdles x r = (wI ((wComeI ((lRem x).2.2 0) r).1 4 - ((lRem x).2.2 0).1 4), lTell1 (setW (lRem x) 0 (wComeI ((lRem x).2.2 0) r)) ((wComeI ((lRem x).2.2 0) r).1 3)) := if_neg c
    rw [e, rem_0 h.1.1]
    have a := (Aft.of h0.2.1 i o).e1 (p := mg s' 4)
    have d := h0.done (w' := wComeI (x.2.2 0) r) a (rW.cong ha (fun c _ _ => rfl)) (wok_ComeI (h.1.2.2.2 0 (by decide)))
    exact ⟨fun q => absurd q (by omega), fun _ => ⟨a.uok, kk _ _ _ _ (d.ask (qx_1 d.1) (Qn.self d.2.1))⟩⟩
theorem st_start {n g l e : Int} (hn : xB n) (hg : xB g) (hl : xB l) (he : xB e) (h : lwR x m) (kk : ∀ q x' m', lwR x' m' → K q [pI q] x' m') : sX2_start n g l e x (fun v' x' => ∃ q, v' = [pI q] ∧ sX3_start n g l e m (fun w m' => K q w x' m')) := by
  have h0 := h.s0 (v := 0)
  refine ⟨⟨hn, hg, hl, he, h.1⟩, _, rfl, ⟨⟨hn, hg, hl, he⟩, h.2.1.2.1⟩, ?_⟩
  by_cases c : (1 ≤ n ∧ n ≤ 4) ∧ okSet g l e
  · have e1 : fStart x n g l e = (n, setW (lRem x) 0 (wReset ((lRem x).2.2 0) n g l e)) := if_pos c
    have e2 : gStart m n g l e = (n, mLays (mStarts (mCopy (mS m 0 0) 0 3) 0 n g l e)) := if_pos c
    rw [e1, e2, rem_0 h.1.1]
    obtain ⟨s1, s2, -⟩ := starts_ok (s := mCopy (mS m 0 0) 0 3) (d := 0) (n := n) (g := g) (l := l) (e := e) (by decide) c.1
    have a := Aft.of h0.2.1 s1 s2
    exact kk _ _ _ (h0.done a ((rA.reset c.1 c.2).cong (fun y y0 y1 hy => startsA (by decide) y y0 y1 hy)) (wok_Reset (h.1.2.2.2 0 (by decide))))
  · have e1 : fStart x n g l e = (-1, x) := if_neg c
    have e2 : gStart m n g l e = (-1, mS m 0 0) := if_neg c
    rw [e1, e2]
    exact kk _ _ _ h0
theorem rA.delay {w : WS} {g : Int → Int} {r v : Int} (h : rA w g) (h6 : g 6 = 0) (hr : 0 ≤ r ∧ r < g 0) (hv : 0 ≤ v ∧ v ≤ 999) : rA (wP w 0 r 1 v) (up1 g (16 + r) v) := by
  have hz := h.1.2.2.1
  have a := h.1.src (v := v) hr.1 hr.2 (c := 1) (by decide) (by decide)
  rw [show 12 + 4 * 1 + r = 16 + r by omega] at a
  have e6 : up1 g (16 + r) v 6 = 0 := (up1_ne (by omega)).trans h6
  refine ⟨a, h.2.1.of rfl (fun _ _ _ _ _ _ => rfl) (up1_ne (by omega)) (up1_ne (by omega)) (fun c c0 c1 => up1_ne (by omega)), ⟨h.2.2.1.1.u16 ⟨hr.1, by omega⟩ hv, ?_⟩, fun c hc => ?_, fun i i0 i1 => absurd i1 (by rw [e6]; omega)⟩
  · rw [ls1_cong (by omega) (up1_ne (by omega)) (fun c hc => up1_ne (by omega)), up1_ne (by omega)]
    exact h.2.2.1.2
  · rw [e6]
    have := h.2.2.2.1 c hc
    rw [h6] at this
    have this : g c = if (0 ≤ c ∧ c < 4) ∨ (16 ≤ c ∧ c < 20) then g c else 0 := this
    show up1 g (16 + r) v c = if (0 ≤ c ∧ c < 4) ∨ (16 ≤ c ∧ c < 20) then up1 g (16 + r) v c else 0
    by_cases q : (0 ≤ c ∧ c < 4) ∨ (16 ≤ c ∧ c < 20)
    · rw [if_pos q]
    · rw [if_neg q] at this ⊢
      rw [up1_ne (by omega)]
      exact this
theorem st_delays {r v : Int} (hr : xB r) (hv : xB v) (h : lwR x m) (kk : ∀ q x' m', lwR x' m' → K q [pI q] x' m') : sX2_delays r v x (fun v' x' => ∃ q, v' = [pI q] ∧ sX3_delays r v m (fun w m' => K q w x' m')) := by
  have h0 := h.s0 (v := 0)
  have ev := lSrc_iff h.w0 r
  have i0 : mg m 0 ≤ 4 := h.2.1.zero.2
  obtain ⟨e6, b6⟩ := z6_eq h.w0
  refine ⟨⟨hr, hv, h.1⟩, _, rfl, ⟨⟨hr, hv⟩, h.2.1.mok, h.2.1.2.1⟩, ?_⟩
  by_cases c : mSrc m r ∧ inB v 0 999
  · have em := src_eq h.w0 (q := 1) (c := 16 + r) c.1 (by decide) (by omega)
    have bd := (h.w0.2.2.1.1.2.2.2.2 r c.1.1 (by have := c.1.2; omega)).2.1
    rw [gD0] at bd
    have e1 : fDelays x r v = (if wG (x.2.2 0) 0 r 1 = v then (-2, x) else if 0 < wZ (x.2.2 0) 4 then (-3, x) else (wG (x.2.2 0) 0 r 1, setW (lRem x) 0 (wP ((lRem x).2.2 0) 0 r 1 v))) := if_pos ⟨ev.mpr c.1, c.2⟩
    have e2 : gDelays m r v = (if mg m (16 + r) = v then (-2, mS m 0 0) else if 0 < mg m 6 then (-3, mS m 0 0) else (mg m (16 + r), if 0 ≤ mg m (16 + r) then mLays (mP (mCopy (mS m 0 0) 0 3) (16 + r) v) else mP (mCopy (mS m 0 0) 0 3) (16 + r) v)) := if_pos c
    rw [e1, e2, em, e6, rem_0 h.1.1]
    by_cases c2 : mg m (16 + r) = v
    · rw [if_pos c2, if_pos c2]
      exact kk _ _ _ h0
    · rw [if_neg c2, if_neg c2]
      by_cases c3 : 0 < mg m 6
      · rw [if_pos c3, if_pos c3]
        exact kk _ _ _ h0
      · rw [if_neg c3, if_neg c3, if_pos bd.1]
        have hp := h0.pre
        have c4 : 0 ≤ r ∧ r ≤ 3 := ⟨c.1.1, by have := c.1.2; omega⟩
        obtain ⟨a1, a2⟩ := hp.2.1.putd (v := v) c4
        have a := Aft.of h0.2.1 a1 a2
        refine kk _ _ _ (h0.done a (rA.to (rA.delay hp.w0 (by rw [gD0]; exact (show mg (mCopy (mS m 0 0) 0 3) 6 = mg m 6 from copy_ne (s := mS m 0 0) (by decide) (by decide) (by decide)).trans (by omega)) ⟨c.1.1, by rw [gD0]; exact c.1.2⟩ c.2) ?_) (wok_P (by decide) (h.1.2.2.2 0 (by decide))))
        exact sA.put sA.self (by decide) (by omega) (by omega)
  · have e1 : fDelays x r v = (-1, x) := if_neg (fun z => c ⟨ev.mp z.1, z.2⟩)
    have e2 : gDelays m r v = (-1, mS m 0 0) := if_neg c
    rw [e1, e2]
    exact kk _ _ _ h0
theorem st_undo (h : lwR x m) (kk : ∀ q x' m', lwR x' m' → K q [pI q] x' m') : sX2_undo x (fun v' x' => ∃ q, v' = [pI q] ∧ sX3_undo m (fun w m' => K q w x' m')) := by
  obtain ⟨h1, h2, h3, h4, h5, h6, h7⟩ := h
  have h0 : lwR x (mS m 0 0) := lwR.s0 ⟨h1, h2, h3, h4, h5, h6, h7⟩
  have e8 := h5.1
  have hu := h1.1
  refine ⟨h1, _, rfl, h2.2.1, ?_⟩
  by_cases c : x.1 1 = 0
  · have e1 : fUndo x = (-1, x) := if_pos c
    have e2 : gUndo m = (-1, mS m 0 0) := if_pos (by omega)
    rw [e1, e2]
    exact kk _ _ _ h0
  · have e1 : fUndo x = (x.1 1 - 1, setW (setS x 1 (x.1 1 - 1)) 0 (wCopy (x.2.2 0) (x.2.2 (uSl x (x.1 1 - 1))))) := if_neg c
    have e2 : gUndo m = (m.1 8 - 1, mCopy (mS (mS m 0 0) 8 (m.1 8 - 1)) (5 + (m.1 8 - 1)) 0) := if_neg (by omega)
    have hr := h5.2 (m.1 8 - 1) (by omega) (by omega)
    rw [e1, e2, e8]
    obtain ⟨-, hu2, hu3⟩ := hu
    rw [e8] at hu2 hu3 c
    have q1 : lok (setS x 1 (m.1 8 - 1)) := ⟨⟨h1.1.1, by show 0 ≤ m.1 8 - 1; omega, by show m.1 8 - 1 ≤ 6; omega⟩, h1.2⟩
    have hb : uSl x (m.1 8 - 1) < 10 := by
      unfold uSl
      have := Int.tmod_lt_of_pos (x.1 0 + (m.1 8 - 1)) (b := 6) (by decide)
      omega
    have q2 := ql_W (q := 0) q1 (wok_Copy (h1.2.2.2 0 (by decide)) (h1.2.2.2 _ hb))
    have I2 : Inv (mCopy (mS (mS m 0 0) 8 (m.1 8 - 1)) (5 + (m.1 8 - 1)) 0) := by
      have hm := h2
      obtain ⟨a, b, cc, d, e, f⟩ := h2
      have o : oD 0 (mS (mS m 0 0) 8 (m.1 8 - 1)) (mCopy (mS (mS m 0 0) 8 (m.1 8 - 1)) (5 + (m.1 8 - 1)) 0) := copy_o (by decide)
      have e8' : (mCopy (mS (mS m 0 0) 8 (m.1 8 - 1)) (5 + (m.1 8 - 1)) 0).1 8 = m.1 8 - 1 := rfl
      refine ⟨a, by show 0 ≤ m.1 8 - 1 ∧ m.1 8 - 1 ≤ 6; omega, cc, ?_, fun i i0 i1 hi => ?_, fun k k0 k1 => ?_⟩
      · exact dI.copy (s := mS (mS m 0 0) 8 (m.1 8 - 1)) ((f (m.1 8 - 1) (by omega) (by omega)).cong rfl) (by omega) (by decide)
      · exact dI.other (s := mS (mS m 0 0) 8 (m.1 8 - 1)) ((e i i0 i1 hi).cong rfl) (by omega) (by decide) (by omega) o
      · rw [e8'] at k1
        exact dI.other (s := mS (mS m 0 0) 8 (m.1 8 - 1)) ((f k k0 (by omega)).cong rfl) (by omega) (by decide) (by omega) o
    have o : ∀ y : Int, 0 ≤ y → 2804 ≤ y → mg (mCopy (mS (mS m 0 0) 8 (m.1 8 - 1)) (5 + (m.1 8 - 1)) 0) y = mg m y := fun y y0 y1 => (copy_ne (by decide) y0 (by omega)).trans rfl
    refine kk _ _ _ ⟨q2.1, I2, h3.of rfl rfl rfl rfl, h4.of rfl rfl, ⟨rfl, fun k k0 k1 => ?_⟩, h6.of (fun q q0 => ?_) rfl (fun y y0 _ => o y (by omega) y0), ?_⟩
    · have k1 : k < m.1 8 - 1 := k1
      have es : uSl (setW (setS x 1 (m.1 8 - 1)) 0 (wCopy (x.2.2 0) (x.2.2 (uSl x (m.1 8 - 1))))) k = uSl x k := rfl
      rw [es]
      have ew : (setW (setS x 1 (m.1 8 - 1)) 0 (wCopy (x.2.2 0) (x.2.2 (uSl x (m.1 8 - 1))))).2.2 (uSl x k) = x.2.2 (uSl x k) := by
        show (bif Nat.beq (uSl x k) 0 then _ else x.2.2 (uSl x k)) = _
        rw [bqF (by unfold uSl; omega)]; rfl
      rw [ew]
      exact (h5.2 k k0 (by omega)).desk (fun c c0 c1 => o _ (by omega) (by omega))
    · show (bif Nat.beq q 0 then _ else x.2.2 q) = _
      rw [bqF (by omega)]; rfl
    · exact hr.copy.desk (fun c c0 c1 => copy_at (by omega) (by decide) c0 c1)
theorem st_back {i : Int} (hi : xB i) (h : lwR x m) (kk : ∀ q x' m', lwR x' m' → K q [pI q] x' m') (eq : (gBack m i).1 = (fBack x i).1) : sX2_back i x (fun v' x' => ∃ q, v' = [pI q] ∧ sX3_back i m (fun w m' => K q w x' m')) := by
  obtain ⟨h1, h2, h3, h4, h5, h6, h7⟩ := h
  have h0 : lwR x (mS m 0 0) := lwR.s0 ⟨h1, h2, h3, h4, h5, h6, h7⟩
  refine ⟨⟨hi, h1⟩, _, rfl, hi, ?_⟩
  by_cases c : inB i 0 1 ∧ m.2 12 i.toNat ≠ 0
  · have e2 : gBack m i = (1, mS (mCopy (mS m 0 0) (1 + i) 0) 8 0) := if_pos c
    have c0 : 0 ≤ i := c.1.1
    have c1 : i ≤ 1 := c.1.2
    have e1 : fBack x i = (1, setS (setW x 0 (wCopy (x.2.2 0) (x.2.2 (8 + i.toNat)))) 1 0) := by
      rw [e2] at eq
      unfold fBack at eq ⊢
      split at eq
      · rename_i c3
        rw [if_pos c3]
      · exact absurd eq (by show ¬ (1 : Int) = 0; decide)
    rw [e1, e2]
    have q0 := ql_W (q := 0) h1 (wok_Copy (h1.2.2.2 0 (by decide)) (h1.2.2.2 (8 + i.toNat) (by omega)))
    have o : oD 0 (mS m 0 0) (mCopy (mS m 0 0) (1 + i) 0) := copy_o (by decide)
    have oc : ∀ y : Int, 0 ≤ y → 2804 ≤ y → mg (mS (mCopy (mS m 0 0) (1 + i) 0) 8 0) y = mg m y := fun y y0 y1 => (copy_ne (s := mS m 0 0) (by decide) y0 (by omega)).trans rfl
    refine kk _ _ _ ⟨⟨⟨h1.1.1, by show (0 : Int) ≤ 0; decide, by show (0 : Int) ≤ 6; decide⟩, q0.1.2⟩, ?_, h3.of rfl rfl rfl rfl, h4.of rfl rfl, ⟨rfl, fun k k0 k1 => absurd k1 (by show ¬ k < 0; omega)⟩, h6.of (fun q q0 => ?_) rfl (fun y y0 _ => oc y (by omega) y0), ?_⟩
    · obtain ⟨a, b, cc, d, f, g⟩ := h2
      refine ⟨a, by show (0 : Int) ≤ 0 ∧ (0 : Int) ≤ 6; decide, cc, dI.cong (s := mCopy (mS m 0 0) (1 + i) 0) (dI.copy (s := mS m 0 0) ((f i c0 c1 c.2).cong rfl) (by omega) (by decide)) rfl, fun j j0 j1 hj => ?_, fun k k0 k1 => absurd k1 (by show ¬ k < 0; omega)⟩
      exact dI.cong (s := mCopy (mS m 0 0) (1 + i) 0) (dI.other (s := mS m 0 0) ((f j j0 j1 hj).cong rfl) (by omega) (by decide) (by omega) o) rfl
    · show (bif Nat.beq q 0 then _ else x.2.2 q) = _
      rw [bqF (by omega)]; rfl
    · exact (h6 i c0 c1 c.2).copy.desk (fun y y0 y1 => (copy_at (s := mS m 0 0) (by omega) (by decide) y0 y1).trans rfl)
  · have e2 : gBack m i = (0, mS m 0 0) := if_neg c
    have e1 : fBack x i = (0, x) := by
      rw [e2] at eq
      unfold fBack at eq ⊢
      split at eq
      · exact absurd eq (by show ¬ (0 : Int) = 1; decide)
      · rename_i c3
        rw [if_neg c3]
    rw [e1, e2]
    exact kk _ _ _ h0
end ST
end
-- 98991.mg
section
/-! ===== the text, what is kept ===== -/
theorem byte_eq (x : BitVec 32) (k : Nat) (hk : k ≤ 24) : (x >>> k) &&& 255#32 = (x.sshiftRight k) &&& 255#32 := by
  apply BitVec.eq_of_getLsbD_eq
  intro i hi
  rw [BitVec.getLsbD_and, BitVec.getLsbD_and, BitVec.getLsbD_ushiftRight, BitVec.getLsbD_sshiftRight]
  by_cases c : i < 8
  · rw [if_pos (by omega), show decide (32 ≤ i) = false from decide_eq_false (by omega)]
    rfl
  · have key : ∀ i, i < 32 → 8 ≤ i → (255#32).getLsbD i = false := by decide
    rw [key i hi (by omega), Bool.and_false, Bool.and_false]
theorem b8_24 (a : Int32) : ((a.toUInt32 >>> (24 : UInt32)).toInt32 &&& (255 : Int32)) = ((a >>> (24 : Int32)) &&& (255 : Int32)) := Int32.toBitVec.inj (byte_eq a.toBitVec 24 (by decide))
theorem b8_16 (a : Int32) : ((a.toUInt32 >>> (16 : UInt32)).toInt32 &&& (255 : Int32)) = ((a >>> (16 : Int32)) &&& (255 : Int32)) := Int32.toBitVec.inj (byte_eq a.toBitVec 16 (by decide))
theorem b8_8 (a : Int32) : ((a.toUInt32 >>> (8 : UInt32)).toInt32 &&& (255 : Int32)) = ((a >>> (8 : Int32)) &&& (255 : Int32)) := Int32.toBitVec.inj (byte_eq a.toBitVec 8 (by decide))
theorem b8_0 (a : Int32) : ((a.toUInt32 >>> (0 : UInt32)).toInt32 &&& (255 : Int32)) = ((a >>> (0 : Int32)) &&& (255 : Int32)) := Int32.toBitVec.inj (byte_eq a.toBitVec 0 (by decide))
theorem by_0 (v : Int) : by8 v 24 = gs8 v 0 := by
  unfold by8 gs8 ush
  rw [iI_of, iI_of, show ((iI 24).toUInt32 &&& Int32.toUInt32 31) = 24 by decide, show (iI (24 - 8 * 0) &&& 31) = 24 by decide, show iI 255 = 255 by decide, b8_24]
theorem by_1 (v : Int) : by8 v 16 = gs8 v 1 := by
  unfold by8 gs8 ush
  rw [iI_of, iI_of, show ((iI 16).toUInt32 &&& Int32.toUInt32 31) = 16 by decide, show (iI (24 - 8 * 1) &&& 31) = 16 by decide, show iI 255 = 255 by decide, b8_16]
theorem by_2 (v : Int) : by8 v 8 = gs8 v 2 := by
  unfold by8 gs8 ush
  rw [iI_of, iI_of, show ((iI 8).toUInt32 &&& Int32.toUInt32 31) = 8 by decide, show (iI (24 - 8 * 2) &&& 31) = 8 by decide, show iI 255 = 255 by decide, b8_8]
theorem by_3 (v : Int) : by8 v 0 = gs8 v 3 := by
  unfold by8 gs8 ush
  rw [iI_of, iI_of, show ((iI 0).toUInt32 &&& Int32.toUInt32 31) = 0 by decide, show (iI (24 - 8 * 3) &&& 31) = 0 by decide, show iI 255 = 255 by decide, b8_0]
theorem put_c {x : LSt} {c : Int} (h : lok x) (h4 : x.1 4 < 80) : lok (lPutS x c) ∧ (lPutS x c).1 4 = x.1 4 + 1 ∧ (lPutS x c).2.1 1 = xup (x.2.1 1) (x.1 4).toNat c ∧ (∀ k, k ≠ 4 → (lPutS x c).1 k = x.1 k) ∧ (lPutS x c).2.2 = x.2.2 := by
  have l := (putS_ok (v := c) h h4).1
  have e : lPutS x c = setS (setA x 1 (xup (x.2.1 1) (x.1 4).toNat c)) 4 (x.1 4 + 1) := if_pos h4
  rw [e] at l ⊢
  refine ⟨l, rfl, rfl, fun k hk => ?_, rfl⟩
  show (bif Nat.beq k 4 then _ else x.1 k) = x.1 k
  rw [bqF hk]; rfl
theorem uR.fld {x x' : LSt} {m m' : MS} (h : uR x m) (e0 : x'.1 0 = x.1 0) (e1 : x'.1 1 = x.1 1) (e : x'.2.2 = x.2.2) (f8 : m'.1 8 = m.1 8) (f3 : m'.2 3 = m.2 3) : uR x' m' := by
  refine ⟨by rw [e1, f8]; exact h.1, fun k k0 k1 => ?_⟩
  rw [f8] at k1
  have hs : uSl x' k = uSl x k := by unfold uSl; rw [e0]
  rw [hs, e]
  exact (h.2 k k0 k1).desk (fun c _ _ => mg_cong f3 _)
theorem xup_eq {g : Nat → Int} {k : Nat} {v : Int} : xup g k v k = v := if_pos rfl
theorem xup_ne {g : Nat → Int} {k j : Nat} {v : Int} (h : j ≠ k) : xup g k v j = g j := if_neg h
section SG
variable {x : LSt} {m : MS} {K : Int → PS → LSt → MS → Prop}
theorem st_sign {v : Int} (hv : xB v) (h : lwR x m) (kk : ∀ q x' m', lwR x' m' → K q [pI q] x' m') : sX2_sign v x (fun v' x' => ∃ q, v' = [pI q] ∧ sX3_sign v m (fun w m' => K q w x' m')) := by
  have h0 := h.s0 (v := 0)
  refine ⟨⟨hv, h.1⟩, _, rfl, h.2.1.1, ?_⟩
  obtain ⟨h1, h2, h3, h4, h5, h6, h7⟩ := h
  have e4 := h3.1
  have b4 := h1.2.2.1
  by_cases c : 76 < m.1 4
  · have e1 : fSign x v = (-1, x) := if_pos (by omega)
    have e2 : gSign m v = (-1, mS m 0 0) := if_pos c
    rw [e1, e2]
    exact kk _ _ _ h0
  · have e1 : fSign x v = ((lPutS (lPutS (lPutS (lPutS x (by8 v 24)) (by8 v 16)) (by8 v 8)) (by8 v 0)).1 4, lPutS (lPutS (lPutS (lPutS x (by8 v 24)) (by8 v 16)) (by8 v 8)) (by8 v 0)) := if_neg (by omega)
    have e2 : gSign m v = (m.1 4 + 4, mS (sgL v 4 0 (mS m 0 0)) 4 (m.1 4 + 4)) := if_neg c
    rw [e1, e2]
    obtain ⟨a1, a2, a3, a4, a5⟩ := put_c (c := by8 v 24) h1 (by omega)
    generalize lPutS x (by8 v 24) = u1 at a1 a2 a3 a4 a5 ⊢
    obtain ⟨c1, c2, c3, c4, c5⟩ := put_c (c := by8 v 16) a1 (by omega)
    generalize lPutS u1 (by8 v 16) = u2 at c1 c2 c3 c4 c5 ⊢
    obtain ⟨d1, d2, d3, d4, d5⟩ := put_c (c := by8 v 8) c1 (by omega)
    generalize lPutS u2 (by8 v 8) = u3 at d1 d2 d3 d4 d5 ⊢
    obtain ⟨f1, f2, f3, f4, f5⟩ := put_c (c := by8 v 0) d1 (by omega)
    generalize lPutS u3 (by8 v 0) = u4 at f1 f2 f3 f4 f5 ⊢
    have t4 : u4.1 4 = m.1 4 + 4 := by omega
    rw [t4]
    have ea : (mS (sgL v 4 0 (mS m 0 0)) 4 (m.1 4 + 4)).2 2 = xup (xup (xup (xup (m.2 2) (m.1 4 + 0).toNat (gs8 v 0)) (m.1 4 + (0 + 1)).toNat (gs8 v (0 + 1))) (m.1 4 + (0 + 1 + 1)).toNat (gs8 v (0 + 1 + 1))) (m.1 4 + (0 + 1 + 1 + 1)).toNat (gs8 v (0 + 1 + 1 + 1)) := rfl
    have I : Inv (mS (sgL v 4 0 (mS m 0 0)) 4 (m.1 4 + 4)) := h2.len (by show 0 ≤ m.1 4 + 4 ∧ m.1 4 + 4 ≤ 80; omega) rfl rfl rfl rfl
    have z8 : (mS (sgL v 4 0 (mS m 0 0)) 4 (m.1 4 + 4)).1 8 = m.1 8 := rfl
    have z4 : (mS (sgL v 4 0 (mS m 0 0)) 4 (m.1 4 + 4)).1 4 = m.1 4 + 4 := rfl
    have z3 : (mS (sgL v 4 0 (mS m 0 0)) 4 (m.1 4 + 4)).2 3 = m.2 3 := rfl
    have z12 : (mS (sgL v 4 0 (mS m 0 0)) 4 (m.1 4 + 4)).2 12 = m.2 12 := rfl
    generalize mS (sgL v 4 0 (mS m 0 0)) 4 (m.1 4 + 4) = m' at ea I z8 z4 z3 z12 ⊢
    have k5 : u4.2.2 = x.2.2 := f5.trans (d5.trans (c5.trans a5))
    have kf : ∀ k, k ≠ 4 → u4.1 k = x.1 k := fun k hk => (f4 k hk).trans ((d4 k hk).trans ((c4 k hk).trans (a4 k hk)))
    refine kk _ _ _ ⟨f1, I, ⟨by rw [t4, z4], fun j j0 j1 => ?_⟩, h4.of (kf 2 (by decide)) z12, h5.fld (kf 0 (by decide)) (kf 1 (by decide)) k5 z8 z3, h6.of (fun q _ => by rw [k5]) z12 (fun y _ _ => mg_cong z3 y), ?_⟩
    · rw [z4] at j1
      have hL : ∀ q : Nat, u4.2.1 1 q = if q = (u3.1 4).toNat then by8 v 0 else if q = (u2.1 4).toNat then by8 v 8 else if q = (u1.1 4).toNat then by8 v 16 else if q = (x.1 4).toNat then by8 v 24 else x.2.1 1 q := by
        intro q
        rw [f3, d3, c3, a3]
        rfl
      have hR : ∀ q : Nat, m'.2 2 q = if q = (m.1 4 + (0 + 1 + 1 + 1)).toNat then gs8 v 3 else if q = (m.1 4 + (0 + 1 + 1)).toNat then gs8 v 2 else if q = (m.1 4 + (0 + 1)).toNat then gs8 v 1 else if q = (m.1 4 + 0).toNat then gs8 v 0 else m.2 2 q := by
        intro q
        rw [ea]
        rfl
      rw [hL, hR]
      by_cases j4 : j = m.1 4 + 3
      · rw [if_pos (show j.toNat = (u3.1 4).toNat by omega), if_pos (show j.toNat = (m.1 4 + (0 + 1 + 1 + 1)).toNat by omega)]
        exact by_3 v
      · rw [if_neg (show ¬ j.toNat = (u3.1 4).toNat by omega), if_neg (show ¬ j.toNat = (m.1 4 + (0 + 1 + 1 + 1)).toNat by omega)]
        by_cases j3 : j = m.1 4 + 2
        · rw [if_pos (show j.toNat = (u2.1 4).toNat by omega), if_pos (show j.toNat = (m.1 4 + (0 + 1 + 1)).toNat by omega)]
          exact by_2 v
        · rw [if_neg (show ¬ j.toNat = (u2.1 4).toNat by omega), if_neg (show ¬ j.toNat = (m.1 4 + (0 + 1 + 1)).toNat by omega)]
          by_cases j2 : j = m.1 4 + 1
          · rw [if_pos (show j.toNat = (u1.1 4).toNat by omega), if_pos (show j.toNat = (m.1 4 + (0 + 1)).toNat by omega)]
            exact by_1 v
          · rw [if_neg (show ¬ j.toNat = (u1.1 4).toNat by omega), if_neg (show ¬ j.toNat = (m.1 4 + (0 + 1)).toNat by omega)]
            by_cases j5 : j = m.1 4
            · rw [if_pos (show j.toNat = (x.1 4).toNat by omega), if_pos (show j.toNat = (m.1 4 + 0).toNat by omega)]
              exact by_0 v
            · rw [if_neg (show ¬ j.toNat = (x.1 4).toNat by omega), if_neg (show ¬ j.toNat = (m.1 4 + 0).toNat by omega)]
              exact h3.2 j j0 (by omega)
    · rw [k5]
      exact h7.desk (fun y _ _ => mg_cong z3 _)
/-- the text's length alone -/
theorem lwR.len {m' : MS} {n : Int} (h : lwR x m) (hn : 0 ≤ n ∧ n ≤ m.1 4) (I : Inv m') (e4 : m'.1 4 = n) (e8 : m'.1 8 = m.1 8) (e3 : m'.2 3 = m.2 3) (e12 : m'.2 12 = m.2 12) (e2 : m'.2 2 = m.2 2) : lwR (setS x 4 n) m' := by
  obtain ⟨h1, h2, h3, h4, h5, h6, h7⟩ := h
  have b4 := h1.2.2.1
  have f4 := h3.1
  refine ⟨⟨h1.1, h1.2.1, ⟨hn.1, by show n ≤ 80; omega⟩, h1.2.2.2⟩, I, ⟨e4.symm, fun j j0 j1 => ?_⟩, h4.of rfl e12, h5.fld rfl rfl rfl e8 e3, h6.of (fun _ _ => rfl) e12 (fun y _ _ => mg_cong e3 y), h7.desk (fun y _ _ => mg_cong e3 _)⟩
  rw [e4] at j1
  rw [e2]
  exact h3.2 j j0 (by omega)
theorem st_end {n : Int} (hn : xB n) (h : lwR x m) (kk : ∀ q x' m', lwR x' m' → K q [pI q] x' m') : sX2_end n x (fun v' x' => ∃ q, v' = [pI q] ∧ sX3_end n m (fun w m' => K q w x' m')) := by
  have h0 := h.s0 (v := 0)
  have e4 := h.2.2.1.1
  refine ⟨hn, _, rfl, hn, ?_⟩
  by_cases c : 0 ≤ n ∧ n ≤ m.1 4
  · have e1 : fEnd x n = (1, setS x 4 n) := if_pos (by omega)
    have e2 : gEnd m n = (1, mS (mS m 0 0) 4 n) := if_pos c
    rw [e1, e2]
    have b4 := h.2.1.1
    exact kk _ _ _ (h.len c (h.2.1.len (by show 0 ≤ n ∧ n ≤ 80; omega) rfl rfl rfl rfl) rfl rfl rfl rfl rfl)
  · have e1 : fEnd x n = (0, x) := if_neg (by omega)
    have e2 : gEnd m n = (0, mS m 0 0) := if_neg c
    rw [e1, e2]
    exact kk _ _ _ h0
theorem or0 : ∀ a : Nat, a < 4 → (iI (a : Int) ||| iI (bitOf 0)).toInt = (if a % 2 = 0 then (a : Int) + 1 else a) := by decide +kernel
theorem or1 : ∀ a : Nat, a < 4 → (iI (a : Int) ||| iI (bitOf 1)).toInt = (if a < 2 then (a : Int) + 2 else a) := by decide +kernel
theorem an0 : ∀ a : Nat, a < 4 → ((iI (a : Int) &&& iI (bitOf 0)).toInt ≠ 0 ↔ a % 2 = 1) := by decide +kernel
theorem an1 : ∀ a : Nat, a < 4 → ((iI (a : Int) &&& iI (bitOf 1)).toInt ≠ 0 ↔ 2 ≤ a) := by decide +kernel
theorem kfR.nat (h : kfR x m) : ∃ a : Nat, a < 4 ∧ x.1 2 = (a : Int) := by
  obtain ⟨h0, h1, h2⟩ := h
  exact ⟨(x.1 2).toNat, by omega, by omega⟩
theorem eq_back (h : kfR x m) (i : Int) : (gBack m i).1 = (fBack x i).1 := by
  obtain ⟨a, a4, ea⟩ := h.nat
  obtain ⟨h0, h1, h2⟩ := h
  unfold gBack fBack
  rw [ea]
  by_cases c : inB i 0 1
  · have q : (iI (a : Int) &&& iI (bitOf i)).toInt ≠ 0 ↔ m.2 12 i.toNat ≠ 0 := by
      by_cases c0 : i = 0
      · subst c0
        rw [an0 a a4]
        show a % 2 = 1 ↔ m.2 12 0 ≠ 0
        omega
      · have c1 : i = 1 := by omega
        subst c1
        rw [an1 a a4]
        show 2 ≤ a ↔ m.2 12 1 ≠ 0
        omega
    by_cases c2 : m.2 12 i.toNat ≠ 0
    · rw [if_pos ⟨c, c2⟩, if_pos ⟨by omega, q.mpr c2⟩]
    · rw [if_neg (fun z => c2 z.2), if_neg (fun z => c2 (q.mp z.2))]
  · rw [if_neg (fun z => c z.1), if_neg (fun z => c (by omega))]
theorem kf_keep {x' : LSt} {m' : MS} {i : Int} (h : kfR x m) (c : inB i 0 1) (e2 : x'.1 2 = (iI (x.1 2) ||| iI (bitOf i)).toInt) (e12 : m'.2 12 = xup (m.2 12) i.toNat 1) : kfR x' m' := by
  obtain ⟨a, a4, ea⟩ := h.nat
  obtain ⟨h0, h1, h2⟩ := h
  rw [ea] at e2
  by_cases c0 : i = 0
  · subst c0
    rw [or0 a a4] at e2
    have f0 : m'.2 12 0 = 1 := by rw [e12]; rfl
    have f1 : m'.2 12 1 = m.2 12 1 := by rw [e12]; rfl
    refine ⟨by omega, by omega, ?_⟩
    rw [e2, f0, f1]
    split <;> omega
  · have c1 : i = 1 := by omega
    subst c1
    rw [or1 a a4] at e2
    have f0 : m'.2 12 1 = 1 := by rw [e12]; rfl
    have f1 : m'.2 12 0 = m.2 12 0 := by rw [e12]; rfl
    refine ⟨by omega, by omega, ?_⟩
    rw [e2, f0, f1]
    split <;> omega
theorem st_keep {i : Int} (hi : xB i) (h : lwR x m) (kk : ∀ q x' m', lwR x' m' → K q [pI q] x' m') : sX2_keep i x (fun v' x' => ∃ q, v' = [pI q] ∧ sX3_keep i m (fun w m' => K q w x' m')) := by
  have h0 := h.s0 (v := 0)
  refine ⟨⟨hi, h.1⟩, _, rfl, hi, ?_⟩
  obtain ⟨h1, h2, h3, h4, h5, h6, h7⟩ := h
  by_cases c : 0 ≤ i ∧ i ≤ 1
  · have e1 : fKeep x i = (1, setS (setW x (8 + i.toNat) (wCopy (x.2.2 (8 + i.toNat)) (x.2.2 0))) 2 (iI (x.1 2) ||| iI (bitOf i)).toInt) := if_pos (by omega)
    have e2 : gKeep m i = (1, mCopy (mA (mS m 0 0) 12 (xup (m.2 12) i.toNat 1)) 0 (1 + i)) := if_pos c
    rw [e1, e2]
    have q := ql_W (q := 8 + i.toNat) h1 (wok_Copy (h1.2.2.2 (8 + i.toNat) (by omega)) (h1.2.2.2 0 (by decide)))
    have o : oD (1 + i) (mA (mS m 0 0) 12 (xup (m.2 12) i.toNat 1)) (mCopy (mA (mS m 0 0) 12 (xup (m.2 12) i.toNat 1)) 0 (1 + i)) := copy_o (by omega)
    have e12 : (mCopy (mA (mS m 0 0) 12 (xup (m.2 12) i.toNat 1)) 0 (1 + i)).2 12 = xup (m.2 12) i.toNat 1 := rfl
    have oc : ∀ y : Int, 0 ≤ y → (y < (1 + i) * 2804 ∨ (1 + i) * 2804 + 2804 ≤ y) → mg (mCopy (mA (mS m 0 0) 12 (xup (m.2 12) i.toNat 1)) 0 (1 + i)) y = mg m y := fun y y0 hy => (copy_ne (by omega) y0 hy).trans rfl
    have oa : ∀ y : Int, 0 ≤ y → y < 2804 → mg (mCopy (mA (mS m 0 0) 12 (xup (m.2 12) i.toNat 1)) 0 (1 + i)) ((1 + i) * 2804 + y) = mg m (0 * 2804 + y) := fun y y0 y1 => (copy_at (by decide) (by omega) y0 y1).trans rfl
    have ot : ∀ j, j ≠ i → 0 ≤ j → (xup (m.2 12) i.toNat 1) j.toNat = m.2 12 j.toNat := fun j hj j0 => if_neg (by omega)
    have I : Inv (mCopy (mA (mS m 0 0) 12 (xup (m.2 12) i.toNat 1)) 0 (1 + i)) := by
      obtain ⟨a, b, cc, d, f, g⟩ := h2
      refine ⟨a, b, cc, dI.other (s := mA (mS m 0 0) 12 (xup (m.2 12) i.toNat 1)) (d.cong rfl) (by decide) (by omega) (by omega) o, fun j j0 j1 hj => ?_, fun k k0 k1 => dI.other (s := mA (mS m 0 0) 12 (xup (m.2 12) i.toNat 1)) ((g k k0 k1).cong rfl) (by omega) (by omega) (by omega) o⟩
      by_cases q : j = i
      · subst q
        exact dI.copy (s := mA (mS m 0 0) 12 (xup (m.2 12) j.toNat 1)) (d.cong rfl) (by decide) (by omega)
      · rw [e12, ot j q j0] at hj
        exact dI.other (s := mA (mS m 0 0) 12 (xup (m.2 12) i.toNat 1)) ((f j j0 j1 hj).cong rfl) (by omega) (by omega) (by omega) o
    have ew : ∀ q, q ≠ 8 + i.toNat → (setS (setW x (8 + i.toNat) (wCopy (x.2.2 (8 + i.toNat)) (x.2.2 0))) 2 (iI (x.1 2) ||| iI (bitOf i)).toInt).2.2 q = x.2.2 q := fun q hq => by
      show (bif Nat.beq q (8 + i.toNat) then _ else x.2.2 q) = _
      rw [bqF hq]; rfl
    have ez : (setS (setW x (8 + i.toNat) (wCopy (x.2.2 (8 + i.toNat)) (x.2.2 0))) 2 (iI (x.1 2) ||| iI (bitOf i)).toInt).2.2 (8 + i.toNat) = wCopy (x.2.2 (8 + i.toNat)) (x.2.2 0) := by
      show (bif Nat.beq (8 + i.toNat) (8 + i.toNat) then _ else x.2.2 (8 + i.toNat)) = _
      rw [Nat.beq_refl]; rfl
    refine kk _ _ _ ⟨q.1, I, h3.of rfl rfl rfl rfl, kf_keep h4 c rfl e12, h5.of rfl rfl (fun q _ _ => ew q (by omega)) h1.1 rfl (fun y y0 => oc y (by omega) (by omega)), fun j j0 j1 hj => ?_, ?_⟩
    · by_cases q : j = i
      · subst q
        rw [ez]
        exact h7.copy.desk (fun y y0 y1 => oa y y0 y1)
      · rw [e12, ot j q j0] at hj
        rw [ew _ (by omega)]
        exact (h6 j j0 j1 hj).desk (fun y y0 y1 => oc _ (by omega) (by omega))
    · rw [ew 0 (by omega)]
      exact h7.desk (fun y y0 y1 => oc _ (by omega) (by omega))
  · have e1 : fKeep x i = (0, x) := if_neg (by omega)
    have e2 : gKeep m i = (0, mS m 0 0) := if_neg c
    rw [e1, e2]
    exact kk _ _ _ h0
end SG
end
-- 98992.mh
section
/-! ===== texts read by both: signs, numbers, events ===== -/
theorem mS_self (s : MS) (k : Nat) {v : Int} (h : s.1 k = v) : mS s k v = s := by
  subst h
  have : (fun j => bif Nat.beq j k then s.1 k else s.1 j) = s.1 := by
    funext j
    by_cases e : j = k
    · subst e; rw [Nat.beq_refl]; rfl
    · rw [bqF e]; rfl
  unfold mS
  rw [this]
theorem mS_mS (s : MS) (k : Nat) (v w : Int) : mS (mS s k v) k w = mS s k w := by
  have : (fun j => bif Nat.beq j k then w else (mS s k v).1 j) = (fun j => bif Nat.beq j k then w else s.1 j) := by
    funext j
    by_cases e : j = k
    · subst e; rw [Nat.beq_refl]; rfl
    · rw [bqF e]
      exact mS_ne e
  unfold mS
  unfold mS at this
  rw [this]
theorem tkL_run (s : MS) (j : Nat) (c0 n : Int) (hs : ∀ k, 0 ≤ k → k < n → sbI j k = c0 + k) : ∀ (m : Nat) (k : Int), 0 ≤ k → k + m = n → tkL s j m k = if s.1 5 < s.1 6 ∧ c0 + k ≤ s.2 2 (s.1 5).toNat ∧ s.2 2 (s.1 5).toNat < c0 + n then (s.2 2 (s.1 5).toNat - c0, mS s 5 (s.1 5 + 1)) else (-1, s)
  | 0, k, h0, h1 => by
    rw [tkL, if_neg (by omega)]
  | m + 1, k, h0, h1 => by
    rw [tkL, tkL_run s j c0 n hs m (k + 1) (by omega) (by omega), hs k h0 (by omega)]
    by_cases c : s.1 6 ≤ s.1 5
    · rw [if_pos c, if_neg (by omega)]
    · rw [if_neg c]
      by_cases c2 : c0 + k = s.2 2 (s.1 5).toNat
      · rw [if_pos c2, if_pos (by omega), show s.2 2 (s.1 5).toNat - c0 = k by omega]
      · rw [if_neg c2]
        by_cases c3 : s.1 5 < s.1 6 ∧ c0 + (k + 1) ≤ s.2 2 (s.1 5).toNat ∧ s.2 2 (s.1 5).toNat < c0 + n
        · rw [if_pos c3, if_pos (by omega)]
        · rw [if_neg c3, if_neg (by omega)]
theorem sb6 : ∀ k, 0 ≤ k → k < 10 → sbI 6 k = 48 + k := by
  have key : ∀ k : Nat, k < 10 → sbI 6 (k : Int) = 48 + (k : Int) := by decide +kernel
  intro k h0 h1
  have := key k.toNat (by omega)
  rw [show ((k.toNat : Nat) : Int) = k by omega] at this
  exact this
theorem sb5 : ∀ k, 0 ≤ k → k < 6 → sbI 5 k = 97 + k := by
  have key : ∀ k : Nat, k < 6 → sbI 5 (k : Int) = 97 + (k : Int) := by decide +kernel
  intro k h0 h1
  have := key k.toNat (by omega)
  rw [show ((k.toNat : Nat) : Int) = k by omega] at this
  exact this
theorem gTk6 (s : MS) : gTk s 6 = if s.1 5 < s.1 6 ∧ 48 ≤ s.2 2 (s.1 5).toNat ∧ s.2 2 (s.1 5).toNat < 58 then (s.2 2 (s.1 5).toNat - 48, mS s 5 (s.1 5 + 1)) else (-1, s) := by
  have e : (slI 6).toNat = 10 := by decide +kernel
  unfold gTk
  rw [e, tkL_run s 6 48 10 sb6 10 0 (by decide) (by decide)]
  rfl
theorem gTk5 (s : MS) : gTk s 5 = if s.1 5 < s.1 6 ∧ 97 ≤ s.2 2 (s.1 5).toNat ∧ s.2 2 (s.1 5).toNat < 103 then (s.2 2 (s.1 5).toNat - 97, mS s 5 (s.1 5 + 1)) else (-1, s) := by
  have e : (slI 5).toNat = 6 := by decide +kernel
  unfold gTk
  rw [e, tkL_run s 5 97 6 sb5 6 0 (by decide) (by decide)]
  rfl
theorem gTk7 (s : MS) : gTk s 7 = if s.1 6 ≤ s.1 5 then (-1, s) else if 43 = s.2 2 (s.1 5).toNat then (0, mS s 5 (s.1 5 + 1)) else if 45 = s.2 2 (s.1 5).toNat then (1, mS s 5 (s.1 5 + 1)) else (-1, s) := by
  have e : (slI 7).toNat = 2 := by decide +kernel
  have e0 : sbI 7 0 = 43 := by decide +kernel
  have e1 : sbI 7 (0 + 1) = 45 := by decide +kernel
  unfold gTk
  rw [e, tkL, tkL, tkL, e0, e1]
  by_cases c : s.1 6 ≤ s.1 5
  · rw [if_pos c, if_pos c]
  · rw [if_neg c, if_neg c, if_neg c]
    rfl
theorem gTk8 (s : MS) : gTk s 8 = if s.1 6 ≤ s.1 5 then (-1, s) else if 101 = s.2 2 (s.1 5).toNat then (0, mS s 5 (s.1 5 + 1)) else if 109 = s.2 2 (s.1 5).toNat then (1, mS s 5 (s.1 5 + 1)) else if 105 = s.2 2 (s.1 5).toNat then (2, mS s 5 (s.1 5 + 1)) else (-1, s) := by
  have e : (slI 8).toNat = 3 := by decide +kernel
  have e0 : sbI 8 0 = 101 := by decide +kernel
  have e1 : sbI 8 (0 + 1) = 109 := by decide +kernel
  have e2 : sbI 8 (0 + 1 + 1) = 105 := by decide +kernel
  unfold gTk
  rw [e, tkL, tkL, tkL, tkL, e0, e1, e2]
  by_cases c : s.1 6 ≤ s.1 5
  · rw [if_pos c, if_pos c]
  · rw [if_neg c, if_neg c, if_neg c, if_neg c]
    rfl
/-- a number by its digits -/
def nv (T : Int → Int) : Nat → Int → Int → Int
  | 0, _, v => v
  | n + 1, a, v => nv T n (a + 1) (10 * v + (T a - 48))
theorem nv_nn (T : Int → Int) : ∀ (n : Nat) (a v : Int), 0 ≤ v → (∀ j, a ≤ j → j < a + n → 48 ≤ T j) → 0 ≤ nv T n a v
  | 0, _, _, h, _ => h
  | n + 1, a, v, h, hd => by
    rw [nv]
    have := hd a (Int.le_refl _) (by omega)
    exact nv_nn T n (a + 1) _ (by omega) (fun j j0 j1 => hd j (by omega) (by omega))
/-- the first that is not so -/
def fa (G : Int → Prop) (p i : Int) : Prop := 0 ≤ i ∧ i < p ∧ (∀ j, 0 ≤ j → j < i → G j) ∧ ¬ G i
theorem fa.one {G G' : Int → Prop} {p i i' : Int} (e : ∀ j, 0 ≤ j → j < p → (G j ↔ G' j)) (h : fa G p i) (h' : fa G' p i') : i = i' := by
  obtain ⟨a, b, c, d⟩ := h
  obtain ⟨a', b', c', d'⟩ := h'
  rcases Int.lt_trichotomy i i' with q | q | q
  · exact absurd ((e i a b).mpr (c' i a q)) d
  · exact q
  · exact absurd ((e i' a' b').mp (c i' a' q)) d'
theorem fa.no {G G' : Int → Prop} {p i : Int} (e : ∀ j, 0 ≤ j → j < p → (G j ↔ G' j)) (h : fa G p i) (all : ∀ j, 0 ≤ j → j < p → G' j) : False := h.2.2.2 ((e i h.1 h.2.1).mpr (all i h.1 h.2.1))
theorem dgL_neg : ∀ (n : Nat) (s : MS), dgL n (-1) s = (-1, s)
  | 0, _ => rfl
  | _ + 1, _ => if_pos (by decide)
theorem dg_sp (tt : Nat → Int) (to a : Int) (G : Int → Prop) : ∀ (n : Nat) (o v : Int) (s : MS), s.2 2 = tt → s.1 6 = to → s.1 5 = a + o → 0 ≤ v → 0 ≤ o → (∀ j, o ≤ j → j < o + n → (G j ↔ (a + j < to ∧ 48 ≤ tt (a + j).toNat ∧ tt (a + j).toNat < 58))) → (∀ j, 0 ≤ j → j < o → G j) → (∃ i, fa G (o + n) i ∧ dgL n v s = (-1, mS s 5 (a + i))) ∨ ((∀ j, 0 ≤ j → j < o + n → G j) ∧ dgL n v s = (nv (fun j => tt j.toNat) n (a + o) v, mS s 5 (a + o + n)))
  | 0, o, v, s, h2, h6, h5, hv, ho, hG, hb => by
    refine Or.inr ⟨fun j j0 j1 => hb j j0 (by omega), ?_⟩
    rw [mS_self s 5 (by rw [h5]; omega)]
    rfl
  | n + 1, o, v, s, h2, h6, h5, hv, ho, hG, hb => by
    rw [dgL, if_neg (by omega), gTk6, h2, h6, h5]
    have g := hG o (Int.le_refl _) (by omega)
    by_cases c : a + o < to ∧ 48 ≤ tt (a + o).toNat ∧ tt (a + o).toNat < 58
    · rw [if_pos c]
      have e : dgV v (tt (a + o).toNat - 48) = 10 * v + (tt (a + o).toNat - 48) := if_neg (by omega)
      rw [e]
      have ih := dg_sp tt to a G n (o + 1) (10 * v + (tt (a + o).toNat - 48)) (mS s 5 (a + o + 1)) h2 h6 (by show a + o + 1 = _; omega) (by omega) (by omega) (fun j j0 j1 => hG j (by omega) (by omega)) (fun j j0 j1 => by
        by_cases q : j = o
        · subst q; exact g.mpr c
        · exact hb j j0 (by omega))
      rw [show o + ((n + 1 : Nat) : Int) = o + 1 + (n : Int) by omega, show a + o + ((n + 1 : Nat) : Int) = a + (o + 1) + (n : Int) by omega, nv, show a + o + 1 = a + (o + 1) by omega] at *
      rw [mS_mS] at ih
      rcases ih with ⟨i, hi, e2⟩ | ⟨hi, e2⟩
      · rw [mS_mS] at e2
        exact Or.inl ⟨i, hi, e2⟩
      · exact Or.inr ⟨hi, e2⟩
    · rw [if_neg c]
      have e : dgV v (-1) = -1 := if_pos (by decide)
      rw [e, dgL_neg]
      refine Or.inl ⟨o, ⟨ho, by omega, hb, fun q => c (g.mp q)⟩, ?_⟩
      rw [mS_self s 5 h5]
/-! what reading an event gives -/
theorem reE5_neg (s : MS) (k any : Int) : (reE5 (-1, s) k any).1 = 0 ∧ (reE5 (-1, s) k any).2.1 5 = s.1 5 := ⟨rfl, rfl⟩
theorem reE4_neg (s : MS) (k any : Int) : (reE4 s k (-1) any).1 = 0 ∧ (reE4 s k (-1) any).2.1 5 = s.1 5 := ⟨rfl, rfl⟩
theorem reE3_neg (s : MS) (side k any : Int) : (reE3 side (-1, s) k any).1 = 0 ∧ (reE3 side (-1, s) k any).2.1 5 = s.1 5 := ⟨rfl, rfl⟩
theorem reE2_neg (s : MS) (k any : Int) : (reE2 (-1, s) k any).1 = 0 ∧ (reE2 (-1, s) k any).2.1 5 = s.1 5 := ⟨rfl, rfl⟩
theorem reE1_neg (s : MS) (k any : Int) : (reE1 (-1, s) k any).1 = 0 ∧ (reE1 (-1, s) k any).2.1 5 = s.1 5 := ⟨rfl, rfl⟩
theorem reE0_neg (s : MS) (k any : Int) : (reE0 (-1, s) k any).1 = 0 ∧ (reE0 (-1, s) k any).2.1 5 = s.1 5 := ⟨rfl, rfl⟩
/-- an event's sign number j, from a on -/
def evG (tt : Nat → Int) (to a n0 any : Int) (j : Int) : Prop := a + j < to ∧ ((j = 0 ∧ 97 ≤ tt (a + j).toNat ∧ tt (a + j).toNat < 103) ∨ (j ≠ 0 ∧ j ≠ 5 ∧ 48 ≤ tt (a + j).toNat ∧ tt (a + j).toNat < 58 ∧ (j = 8 → any = 0 → tt (a + j).toNat < 48 + n0)) ∨ (j = 5 ∧ (tt (a + j).toNat = 43 ∨ tt (a + j).toNat = 45)))
theorem evG_d {tt : Nat → Int} {to a n0 any j : Int} (h0 : j ≠ 0) (h5 : j ≠ 5) (h8 : j ≠ 8) : evG tt to a n0 any j ↔ (a + j < to ∧ 48 ≤ tt (a + j).toNat ∧ tt (a + j).toNat < 58) := by
  unfold evG
  constructor
  · intro q
    omega
  · intro q
    exact ⟨q.1, Or.inr (Or.inl ⟨h0, h5, q.2.1, q.2.2, fun e => absurd e h8⟩)⟩
theorem re_sp {s : MS} {k any a to : Int} {tt : Nat → Int} (h2 : s.2 2 = tt) (h6 : s.1 6 = to) (h5 : s.1 5 = a) : (∃ i, fa (evG tt to a (mg s 0) any) 9 i ∧ (gRe s k any).1 = 0 ∧ (gRe s k any).2.1 5 = a + i) ∨ ((∀ j, 0 ≤ j → j < 9 → evG tt to a (mg s 0) any j) ∧ (gRe s k any).1 = 1 ∧ (gRe s k any).2.1 5 = a + 9 ∧ (gRe s k any).2.2 5 = xup (s.2 5) k.toNat (tt a.toNat - 97) ∧ (gRe s k any).2.2 6 = xup (s.2 6) k.toNat (nv (fun j => tt j.toNat) 4 (a + 1) 0) ∧ (gRe s k any).2.2 7 = xup (s.2 7) k.toNat (if tt (a + 5).toNat = 45 then -(nv (fun j => tt j.toNat) 2 (a + 6) 0) else nv (fun j => tt j.toNat) 2 (a + 6) 0) ∧ (gRe s k any).2.2 8 = xup (s.2 8) k.toNat (tt (a + 8).toNat - 48) ∧ (gRe s k any).2.2 11 = s.2 11) := by
  unfold gRe
  rw [gTk5, h2, h6, h5]
  by_cases c0 : a < to ∧ 97 ≤ tt a.toNat ∧ tt a.toNat < 103
  · rw [if_pos c0]
    have G0 : evG tt to a (mg s 0) any 0 := by
      unfold evG
      rw [show a + 0 = a by omega]
      exact ⟨c0.1, Or.inl ⟨rfl, c0.2⟩⟩
    have e0 : reE0 (tt a.toNat - 97, mS s 5 (a + 1)) k any = reE1 (gDg (st5 (tt a.toNat - 97, mS s 5 (a + 1)) k) 4) k any := if_neg (by show ¬ tt a.toNat - 97 < 0; omega)
    rw [e0]
    have d4 := dg_sp tt to a (evG tt to a (mg s 0) any) 4 1 0 (st5 (tt a.toNat - 97, mS s 5 (a + 1)) k) h2 h6 rfl (by decide) (by decide) (fun j j0 j1 => evG_d (by omega) (by omega) (by omega)) (fun j j0 j1 => by rw [show j = 0 by omega]; exact G0)
    have eg : gDg (st5 (tt a.toNat - 97, mS s 5 (a + 1)) k) 4 = dgL 4 0 (st5 (tt a.toNat - 97, mS s 5 (a + 1)) k) := rfl
    rw [eg]
    rcases d4 with ⟨i, hi, e⟩ | ⟨hG, e⟩
    · rw [e]
      obtain ⟨x1, x2⟩ := reE1_neg (mS (st5 (tt a.toNat - 97, mS s 5 (a + 1)) k) 5 (a + i)) k any
      exact Or.inl ⟨i, ⟨hi.1, by have := hi.2.1; omega, hi.2.2⟩, x1, x2⟩
    · rw [e]
      have nn := nv_nn (fun j => tt j.toNat) 4 (a + 1) 0 (by decide) (fun j j0 j1 => by
        have := (evG_d (by omega) (by omega) (by omega)).mp (hG (j - a) (by omega) (by omega))
        rw [show a + (j - a) = j by omega] at this
        exact this.2.1)
      generalize hV4 : nv (fun j => tt j.toNat) 4 (a + 1) 0 = v4 at nn ⊢
      generalize hs3 : mS (st5 (tt a.toNat - 97, mS s 5 (a + 1)) k) 5 (a + 1 + ((4 : Nat) : Int)) = s3
      have z2 : s3.2 2 = tt := by rw [← hs3]; exact h2
      have z6 : s3.1 6 = to := by rw [← hs3]; exact h6
      have z5 : s3.1 5 = a + 5 := by rw [← hs3]; show a + 1 + ((4 : Nat) : Int) = _; omega
      have y5 : s3.2 5 = xup (s.2 5) k.toNat (tt a.toNat - 97) := by rw [← hs3]; rfl
      have y6 : s3.2 6 = s.2 6 := by rw [← hs3]; rfl
      have y7 : s3.2 7 = s.2 7 := by rw [← hs3]; rfl
      have y8 : s3.2 8 = s.2 8 := by rw [← hs3]; rfl
      have ym : mg s3 0 = mg s 0 := by rw [← hs3]; rfl
      have y11 : s3.2 11 = s.2 11 := by rw [← hs3]; rfl
      have e1 : reE1 (v4, s3) k any = reE2 (gTk (st6 (v4, s3) k) 7) k any := if_neg (by show ¬ v4 < 0; omega)
      rw [e1, gTk7]
      have w2 : (st6 (v4, s3) k).2 2 = tt := z2
      have w6 : (st6 (v4, s3) k).1 6 = to := z6
      have w5 : (st6 (v4, s3) k).1 5 = a + 5 := z5
      rw [w2, w6, w5]
      have fail5 : ¬ evG tt to a (mg s 0) any 5 → fa (evG tt to a (mg s 0) any) 9 5 := fun q => ⟨by decide, by decide, fun j j0 j1 => hG j j0 (by omega), q⟩
      by_cases c5 : to ≤ a + 5
      · rw [if_pos c5]
        obtain ⟨x1, x2⟩ := reE2_neg (st6 (v4, s3) k) k any
        exact Or.inl ⟨5, fail5 (fun q => by unfold evG at q; omega), x1, x2.trans w5⟩
      · rw [if_neg c5]
        -- behind the sign
        have behind : ∀ side : Int, (side = 0 ∧ tt (a + 5).toNat = 43) ∨ (side = 1 ∧ tt (a + 5).toNat = 45) → (∃ i, fa (evG tt to a (mg s 0) any) 9 i ∧ (reE2 (side, mS (st6 (v4, s3) k) 5 (a + 5 + 1)) k any).1 = 0 ∧ (reE2 (side, mS (st6 (v4, s3) k) 5 (a + 5 + 1)) k any).2.1 5 = a + i) ∨ ((∀ j, 0 ≤ j → j < 9 → evG tt to a (mg s 0) any j) ∧ (reE2 (side, mS (st6 (v4, s3) k) 5 (a + 5 + 1)) k any).1 = 1 ∧ (reE2 (side, mS (st6 (v4, s3) k) 5 (a + 5 + 1)) k any).2.1 5 = a + 9 ∧ (reE2 (side, mS (st6 (v4, s3) k) 5 (a + 5 + 1)) k any).2.2 5 = xup (s.2 5) k.toNat (tt a.toNat - 97) ∧ (reE2 (side, mS (st6 (v4, s3) k) 5 (a + 5 + 1)) k any).2.2 6 = xup (s.2 6) k.toNat v4 ∧ (reE2 (side, mS (st6 (v4, s3) k) 5 (a + 5 + 1)) k any).2.2 7 = xup (s.2 7) k.toNat (if tt (a + 5).toNat = 45 then -(nv (fun j => tt j.toNat) 2 (a + 6) 0) else nv (fun j => tt j.toNat) 2 (a + 6) 0) ∧ (reE2 (side, mS (st6 (v4, s3) k) 5 (a + 5 + 1)) k any).2.2 8 = xup (s.2 8) k.toNat (tt (a + 8).toNat - 48) ∧ (reE2 (side, mS (st6 (v4, s3) k) 5 (a + 5 + 1)) k any).2.2 11 = s.2 11) := by
          intro side hside
          have G5 : evG tt to a (mg s 0) any 5 := ⟨by omega, Or.inr (Or.inr ⟨rfl, by omega⟩)⟩
          have hG6 : ∀ j, 0 ≤ j → j < 6 → evG tt to a (mg s 0) any j := fun j j0 j1 => by
            by_cases q : j = 5
            · subst q; exact G5
            · exact hG j j0 (by omega)
          have e2 : reE2 (side, mS (st6 (v4, s3) k) 5 (a + 5 + 1)) k any = reE3 side (gDg (mS (st6 (v4, s3) k) 5 (a + 5 + 1)) 2) k any := if_neg (by show ¬ side < 0; omega)
          rw [e2]
          have d2 := dg_sp tt to a (evG tt to a (mg s 0) any) 2 6 0 (mS (st6 (v4, s3) k) 5 (a + 5 + 1)) w2 w6 (by show a + 5 + 1 = a + 6; omega) (by decide) (by decide) (fun j j0 j1 => evG_d (by omega) (by omega) (by omega)) hG6
          have eg2 : gDg (mS (st6 (v4, s3) k) 5 (a + 5 + 1)) 2 = dgL 2 0 (mS (st6 (v4, s3) k) 5 (a + 5 + 1)) := rfl
          rw [eg2]
          rcases d2 with ⟨i, hi, e⟩ | ⟨hG8, e⟩
          · rw [e]
            obtain ⟨x1, x2⟩ := reE3_neg (mS (mS (st6 (v4, s3) k) 5 (a + 5 + 1)) 5 (a + i)) side k any
            exact Or.inl ⟨i, ⟨hi.1, by have := hi.2.1; omega, hi.2.2⟩, x1, x2⟩
          · rw [e]
            have nn2 := nv_nn (fun j => tt j.toNat) 2 (a + 6) 0 (by decide) (fun j j0 j1 => by
              have := (evG_d (by omega) (by omega) (by omega)).mp (hG8 (j - a) (by omega) (by omega))
              rw [show a + (j - a) = j by omega] at this
              exact this.2.1)
            generalize nv (fun j => tt j.toNat) 2 (a + 6) 0 = v2 at nn2 ⊢
            have e3 : reE3 side (v2, mS (mS (st6 (v4, s3) k) 5 (a + 5 + 1)) 5 (a + 6 + ((2 : Nat) : Int))) k any = reE5 (gDg (st7 (mS (mS (st6 (v4, s3) k) 5 (a + 5 + 1)) 5 (a + 6 + ((2 : Nat) : Int))) k (if side = 1 then -v2 else v2)) 1) k any := if_neg (by show ¬ v2 < 0; omega)
            rw [e3]
            generalize hs7 : st7 (mS (mS (st6 (v4, s3) k) 5 (a + 5 + 1)) 5 (a + 6 + ((2 : Nat) : Int))) k (if side = 1 then -v2 else v2) = s7
            have q2 : s7.2 2 = tt := by rw [← hs7]; exact z2
            have q6 : s7.1 6 = to := by rw [← hs7]; exact z6
            have q5 : s7.1 5 = a + 8 := by rw [← hs7]; show a + 6 + ((2 : Nat) : Int) = _; omega
            have p5 : s7.2 5 = xup (s.2 5) k.toNat (tt a.toNat - 97) := by rw [← hs7]; exact y5
            have p6 : s7.2 6 = xup (s.2 6) k.toNat v4 := by rw [← hs7, ← y6]; rfl
            have p7 : s7.2 7 = xup (s.2 7) k.toNat (if side = 1 then -v2 else v2) := by rw [← hs7, ← y7]; rfl
            have p8 : s7.2 8 = s.2 8 := by rw [← hs7]; exact y8
            have pm : mg s7 0 = mg s 0 := by rw [← hs7]; exact ym
            have p11 : s7.2 11 = s.2 11 := by rw [← hs7]; exact y11
            have pv : (if side = 1 then -v2 else v2) = (if tt (a + 5).toNat = 45 then -v2 else v2) := by
              rcases hside with ⟨u, w⟩ | ⟨u, w⟩
              · rw [if_neg (by omega), if_neg (by omega)]
              · rw [if_pos u, if_pos w]
            rw [pv] at p7
            have eg1 : gDg s7 1 = dgL 0 (dgV 0 (gTk s7 6).1) (gTk s7 6).2 := by
              show dgL 1 0 s7 = _
              rfl
            rw [eg1, gTk6, q2, q6, q5]
            by_cases c8 : a + 8 < to ∧ 48 ≤ tt (a + 8).toNat ∧ tt (a + 8).toNat < 58
            · rw [if_pos c8]
              have ed : dgL 0 (dgV 0 (tt (a + 8).toNat - 48, mS s7 5 (a + 8 + 1)).1) (tt (a + 8).toNat - 48, mS s7 5 (a + 8 + 1)).2 = (tt (a + 8).toNat - 48, mS s7 5 (a + 8 + 1)) := by
                have : dgV 0 (tt (a + 8).toNat - 48) = tt (a + 8).toNat - 48 := by
                  unfold dgV
                  rw [if_neg (by omega)]
                  omega
                show (dgV 0 (tt (a + 8).toNat - 48), mS s7 5 (a + 8 + 1)) = _
                rw [this]
              rw [ed]
              by_cases cs : any = 0 ∧ ¬ mSrc (st8 (tt (a + 8).toNat - 48, mS s7 5 (a + 8 + 1)) k) (tt (a + 8).toNat - 48)
              · have e5 : reE5 (tt (a + 8).toNat - 48, mS s7 5 (a + 8 + 1)) k any = (0, mS (st8 (tt (a + 8).toNat - 48, mS s7 5 (a + 8 + 1)) k) 5 ((st8 (tt (a + 8).toNat - 48, mS s7 5 (a + 8 + 1)) k).1 5 - 1)) := (if_neg (by show ¬ tt (a + 8).toNat - 48 < 0; omega)).trans (if_pos cs)
                rw [e5]
                refine Or.inl ⟨8, ⟨by decide, by decide, fun j j0 j1 => hG8 j j0 (by omega), fun q => ?_⟩, rfl, ?_⟩
                · refine cs.2 ⟨by omega, ?_⟩
                  show tt (a + 8).toNat - 48 < mg s7 0
                  rw [pm]
                  unfold evG at q
                  have ca := cs.1
                  omega
                · show a + 8 + 1 - 1 = a + 8
                  omega
              · have e5 : reE5 (tt (a + 8).toNat - 48, mS s7 5 (a + 8 + 1)) k any = (1, st8 (tt (a + 8).toNat - 48, mS s7 5 (a + 8 + 1)) k) := (if_neg (by show ¬ tt (a + 8).toNat - 48 < 0; omega)).trans (if_neg cs)
                rw [e5]
                refine Or.inr ⟨fun j j0 j1 => ?_, rfl, by show a + 8 + 1 = a + 9; omega, p5, p6, p7, ?_, p11⟩
                · by_cases q : j = 8
                  · subst q
                    refine ⟨c8.1, Or.inr (Or.inl ⟨by decide, by decide, c8.2.1, c8.2.2, fun _ ha => ?_⟩)⟩
                    have hm : mSrc (st8 (tt (a + 8).toNat - 48, mS s7 5 (a + 8 + 1)) k) (tt (a + 8).toNat - 48) := Classical.byContradiction (fun z => cs ⟨ha, z⟩)
                    have := hm.2
                    have this : tt (a + 8).toNat - 48 < mg s7 0 := this
                    rw [pm] at this
                    omega
                  · exact hG8 j j0 (by omega)
                · rw [← p8]; rfl
            · rw [if_neg c8]
              have ed : dgL 0 (dgV 0 ((-1 : Int), s7).1) ((-1 : Int), s7).2 = (-1, s7) := rfl
              rw [ed]
              obtain ⟨x1, x2⟩ := reE5_neg s7 k any
              exact Or.inl ⟨8, ⟨by decide, by decide, fun j j0 j1 => hG8 j j0 (by omega), fun q => c8 (by unfold evG at q; omega)⟩, x1, x2.trans q5⟩
        by_cases ca : 43 = tt (a + 5).toNat
        · rw [if_pos ca]
          exact behind 0 (Or.inl ⟨rfl, ca.symm⟩)
        · rw [if_neg ca]
          by_cases cb : 45 = tt (a + 5).toNat
          · rw [if_pos cb]
            exact behind 1 (Or.inr ⟨rfl, cb.symm⟩)
          · rw [if_neg cb]
            obtain ⟨x1, x2⟩ := reE2_neg (st6 (v4, s3) k) k any
            exact Or.inl ⟨5, fail5 (fun q => by unfold evG at q; omega), x1, x2.trans w5⟩
  · rw [if_neg c0]
    obtain ⟨x1, x2⟩ := reE0_neg s k any
    refine Or.inl ⟨0, ⟨by decide, by decide, fun j j0 j1 => absurd j1 (by omega), fun q => c0 ?_⟩, x1, by rw [x2, h5]; omega⟩
    unfold evG at q
    rw [show a + 0 = a by omega] at q
    omega
end
-- 98993.mi
section
/-! ===== texts: the class reads the same ===== -/
def fq (x : LSt) (f len : Int) (j : Nat) (i : Int) : Prop := f + i < len ∧ lFits x (lSign x (f + i)) (sbI j i)
theorem fmL_sp (x : LSt) (f len : Int) (j : Nat) : ∀ (m : Nat) (k : Int), (∃ i, k ≤ i ∧ i < k + m ∧ (∀ q, k ≤ q → q < i → fq x f len j q) ∧ ¬ fq x f len j i ∧ fmL x f len j m k = f + i) ∨ ((∀ q, k ≤ q → q < k + m → fq x f len j q) ∧ fmL x f len j m k = -1)
  | 0, k => Or.inr ⟨fun q q0 q1 => absurd q1 (by omega), rfl⟩
  | m + 1, k => by
    rw [fmL]
    by_cases c : f + k < len ∧ lFits x (lSign x (f + k)) (sbI j k)
    · rw [if_pos c]
      rcases fmL_sp x f len j m (k + 1) with ⟨i, i0, i1, i2, i3, i4⟩ | ⟨h, e⟩
      · refine Or.inl ⟨i, by omega, by omega, fun q q0 q1 => ?_, i3, i4⟩
        by_cases e : q = k
        · subst e; exact c
        · exact i2 q (by omega) q1
      · refine Or.inr ⟨fun q q0 q1 => ?_, e⟩
        by_cases e : q = k
        · subst e; exact c
        · exact h q (by omega) (by omega)
    · rw [if_neg c]
      exact Or.inl ⟨k, Int.le_refl _, by omega, fun q q0 q1 => absurd q1 (by omega), c, rfl⟩
theorem lFm_sp (x : LSt) (f len : Int) (j : Nat) (n : Nat) (hn : (slI j).toNat = n) : (∃ i, fa (fq x f len j) n i ∧ lFm x f len j = f + i) ∨ ((∀ q, 0 ≤ q → q < (n : Int) → fq x f len j q) ∧ lFm x f len j = -1) := by
  unfold lFm
  rw [hn]
  rcases fmL_sp x f len j n 0 with ⟨i, i0, i1, i2, i3, i4⟩ | ⟨h, e⟩
  · exact Or.inl ⟨i, ⟨i0, by omega, i2, i3⟩, i4⟩
  · exact Or.inr ⟨fun q q0 q1 => h q q0 (by omega), e⟩
/-- the same text -/
def tE (x : LSt) (tt : Nat → Int) (len : Int) : Prop := len ≤ 80 ∧ ∀ j : Int, 0 ≤ j → j < len → x.2.1 1 j.toNat = tt j.toNat
theorem tE.sg {x : LSt} {tt : Nat → Int} {len i : Int} (h : tE x tt len) (h0 : 0 ≤ i) (h1 : i < len) : lSign x i = tt i.toNat := by
  have e : lSign x i = x.2.1 1 i.toNat := if_pos ⟨h0, by have := h.1; omega⟩
  rw [e]
  exact h.2 i h0 h1
theorem sbE : sbI 0 0 = 107 ∧ sbI 0 1 = 100 ∧ sbI 0 2 = 100 ∧ sbI 0 3 = 100 ∧ sbI 0 4 = 100 ∧ sbI 0 5 = 115 ∧ sbI 0 6 = 100 ∧ sbI 0 7 = 100 ∧ sbI 0 8 = 110 := by decide +kernel
theorem sbA : sbI 1 0 = 107 ∧ sbI 1 1 = 100 ∧ sbI 1 2 = 100 ∧ sbI 1 3 = 100 ∧ sbI 1 4 = 100 ∧ sbI 1 5 = 115 ∧ sbI 1 6 = 100 ∧ sbI 1 7 = 100 ∧ sbI 1 8 = 100 := by decide +kernel
theorem sbM : sbI 2 0 = 100 ∧ sbI 2 1 = 100 ∧ sbI 2 2 = 100 ∧ sbI 2 3 = 100 ∧ sbI 2 4 = 100 ∧ sbI 2 5 = 100 := by decide +kernel
theorem sbD : sbI 3 0 = 100 := by decide +kernel
theorem slE : (slI 0).toNat = 9 ∧ (slI 1).toNat = 9 ∧ (slI 2).toNat = 6 ∧ (slI 3).toNat = 1 ∧ slI 0 = 9 ∧ slI 1 = 9 ∧ slI 2 = 6 ∧ slI 3 = 1 ∧ slI 4 = 0 := by decide +kernel
theorem fits_k {x : LSt} {c : Int} : lFits x c 107 ↔ (97 ≤ c ∧ c < 103) := by
  constructor
  · intro q
    rcases q with q | q | q | q
    · exact q.2
    · exact absurd q.1 (by decide)
    · exact absurd q.1 (by decide)
    · exact absurd rfl q.1
  · exact fun q => Or.inl ⟨rfl, q⟩
theorem fits_d {x : LSt} {c : Int} : lFits x c 100 ↔ (48 ≤ c ∧ c < 58) := by
  constructor
  · intro q
    rcases q with q | q | q | q
    · exact absurd q.1 (by decide)
    · exact absurd q.1 (by decide)
    · exact absurd q.1 (by decide)
    · exact ⟨q.2.2.2.1, by have := q.2.2.2.2; omega⟩
  · exact fun q => Or.inr (Or.inr (Or.inr ⟨by decide, by decide, by decide, q.1, by omega⟩))
theorem fits_s {x : LSt} {c : Int} : lFits x c 115 ↔ (c = 43 ∨ c = 45) := by
  constructor
  · intro q
    rcases q with q | q | q | q
    · exact absurd q.1 (by decide)
    · exact absurd q.1 (by decide)
    · exact q.2
    · exact absurd rfl q.2.2.1
  · exact fun q => Or.inr (Or.inr (Or.inl ⟨rfl, q⟩))
theorem fits_n {x : LSt} {c : Int} : lFits x c 110 ↔ (48 ≤ c ∧ c < 48 + wZ (x.2.2 0) 0) := by
  constructor
  · intro q
    rcases q with q | q | q | q
    · exact absurd q.1 (by decide)
    · exact q.2
    · exact absurd q.1 (by decide)
    · exact absurd rfl q.2.1
  · exact fun q => Or.inr (Or.inl ⟨rfl, q⟩)
theorem fq_d {x : LSt} {tt : Nat → Int} {a len i : Int} {j : Nat} (h : tE x tt len) (h0 : 0 ≤ a + i) (e : sbI j i = 100) : fq x a len j i ↔ (a + i < len ∧ 48 ≤ tt (a + i).toNat ∧ tt (a + i).toNat < 58) := by
  unfold fq
  rw [e]
  constructor
  · intro q
    rw [h.sg h0 q.1] at q
    exact ⟨q.1, fits_d.mp q.2⟩
  · intro q
    rw [h.sg h0 q.1]
    exact ⟨q.1, fits_d.mpr q.2⟩
theorem fq_k {x : LSt} {tt : Nat → Int} {a len i : Int} {j : Nat} (h : tE x tt len) (h0 : 0 ≤ a + i) (e : sbI j i = 107) : fq x a len j i ↔ (a + i < len ∧ 97 ≤ tt (a + i).toNat ∧ tt (a + i).toNat < 103) := by
  unfold fq
  rw [e]
  constructor
  · intro q
    rw [h.sg h0 q.1] at q
    exact ⟨q.1, fits_k.mp q.2⟩
  · intro q
    rw [h.sg h0 q.1]
    exact ⟨q.1, fits_k.mpr q.2⟩
theorem fq_s {x : LSt} {tt : Nat → Int} {a len i : Int} {j : Nat} (h : tE x tt len) (h0 : 0 ≤ a + i) (e : sbI j i = 115) : fq x a len j i ↔ (a + i < len ∧ (tt (a + i).toNat = 43 ∨ tt (a + i).toNat = 45)) := by
  unfold fq
  rw [e]
  constructor
  · intro q
    rw [h.sg h0 q.1] at q
    exact ⟨q.1, fits_s.mp q.2⟩
  · intro q
    rw [h.sg h0 q.1]
    exact ⟨q.1, fits_s.mpr q.2⟩
theorem fq_n {x : LSt} {tt : Nat → Int} {a len i : Int} {j : Nat} (h : tE x tt len) (h0 : 0 ≤ a + i) (e : sbI j i = 110) : fq x a len j i ↔ (a + i < len ∧ 48 ≤ tt (a + i).toNat ∧ tt (a + i).toNat < 48 + wZ (x.2.2 0) 0) := by
  unfold fq
  rw [e]
  constructor
  · intro q
    rw [h.sg h0 q.1] at q
    exact ⟨q.1, fits_n.mp q.2⟩
  · intro q
    rw [h.sg h0 q.1]
    exact ⟨q.1, fits_n.mpr q.2⟩
theorem cases9 {i : Int} (h0 : 0 ≤ i) (h1 : i < 9) : i = 0 ∨ i = 1 ∨ i = 2 ∨ i = 3 ∨ i = 4 ∨ i = 5 ∨ i = 6 ∨ i = 7 ∨ i = 8 := by omega
theorem fq_ev0 {x : LSt} {tt : Nat → Int} {a len : Int} (h : tE x tt len) (ha : 0 ≤ a) (z4 : wZ (x.2.2 0) 0 ≤ 4) : ∀ i, 0 ≤ i → i < 9 → (fq x a len 0 i ↔ evG tt len a (wZ (x.2.2 0) 0) 0 i) := by
  intro i i0 i1
  obtain ⟨e0, e1, e2, e3, e4, e5, e6, e7, e8⟩ := sbE
  unfold evG
  rcases cases9 i0 i1 with rfl | rfl | rfl | rfl | rfl | rfl | rfl | rfl | rfl
  · rw [fq_k h (by omega) e0]; omega
  · rw [fq_d h (by omega) e1]; omega
  · rw [fq_d h (by omega) e2]; omega
  · rw [fq_d h (by omega) e3]; omega
  · rw [fq_d h (by omega) e4]; omega
  · rw [fq_s h (by omega) e5]; omega
  · rw [fq_d h (by omega) e6]; omega
  · rw [fq_d h (by omega) e7]; omega
  · rw [fq_n h (by omega) e8]; omega
theorem fq_ev1 {x : LSt} {tt : Nat → Int} {a len n0 : Int} (h : tE x tt len) (ha : 0 ≤ a) : ∀ i, 0 ≤ i → i < 9 → (fq x a len 1 i ↔ evG tt len a n0 1 i) := by
  intro i i0 i1
  obtain ⟨e0, e1, e2, e3, e4, e5, e6, e7, e8⟩ := sbA
  unfold evG
  rcases cases9 i0 i1 with rfl | rfl | rfl | rfl | rfl | rfl | rfl | rfl | rfl
  · rw [fq_k h (by omega) e0]; omega
  · rw [fq_d h (by omega) e1]; omega
  · rw [fq_d h (by omega) e2]; omega
  · rw [fq_d h (by omega) e3]; omega
  · rw [fq_d h (by omega) e4]; omega
  · rw [fq_s h (by omega) e5]; omega
  · rw [fq_d h (by omega) e6]; omega
  · rw [fq_d h (by omega) e7]; omega
  · rw [fq_d h (by omega) e8]; omega
/-! numbers -/
theorem tb_le : ∀ n, 0 ≤ tb n ∧ tb n ≤ 1000000
  | 0 => ⟨by decide, by decide⟩
  | n + 1 => by
    have := tb_le n
    show 0 ≤ tb n / 10 ∧ tb n / 10 ≤ 1000000
    omega
theorem numL_nv {x : LSt} {tt : Nat → Int} {f len : Int} (h : tE x tt len) : ∀ (n : Nat) (k v : Int), 0 ≤ v → v < tb n → 0 ≤ f + k → f + k + n ≤ len → (∀ j, f + k ≤ j → j < f + k + n → 48 ≤ tt j.toNat ∧ tt j.toNat < 58) → numL x f n k v = nv (fun j => tt j.toNat) n (f + k) v
  | 0, _, _, _, _, _, _, _ => rfl
  | n + 1, k, v, h0, h1, h2, h3, hd => by
    have h80 := h.1
    have d := hd (f + k) (Int.le_refl _) (by omega)
    have t1 : tb (n + 1) = tb n / 10 := rfl
    have t2 := tb_le n
    rw [numL, nv, wI_id (z := f + k) ⟨by omega, by omega⟩, h.sg h2 (by omega), wI_id (z := v * 10) ⟨by omega, by omega⟩, wI_id (z := v * 10 + tt (f + k).toNat) ⟨by omega, by omega⟩, wI_id ⟨by omega, by omega⟩, numL_nv h n (k + 1) _ (by omega) (by omega) (by omega) (by omega) (fun j j0 j1 => hd j (by omega) (by omega)), show v * 10 + tt (f + k).toNat - 48 = 10 * v + (tt (f + k).toNat - 48) by omega, show f + (k + 1) = f + k + 1 by omega]
theorem lNum_nv {x : LSt} {tt : Nat → Int} {f len d : Int} (h : tE x tt len) (n : Nat) (hn : d.toNat = n) (h5 : n ≤ 5) (h2 : 0 ≤ f) (h3 : f + n ≤ len) (hd : ∀ j, f ≤ j → j < f + n → 48 ≤ tt j.toNat ∧ tt j.toNat < 58) : lNum x f d = nv (fun j => tt j.toNat) n f 0 := by
  have key : ∀ n, n ≤ 5 → 0 < tb n := by decide
  unfold lNum
  rw [hn, numL_nv h n 0 0 (Int.le_refl _) (key n h5) (by omega) (by omega) (fun j j0 j1 => hd j (by omega) (by omega)), show f + 0 = f by omega]
theorem nv1 (T : Int → Int) (a : Int) : nv T 1 a 0 = T a - 48 := by
  show 10 * 0 + (T a - 48) = _
  omega
theorem nv2_b {T : Int → Int} {a : Int} (h : ∀ j, a ≤ j → j < a + 2 → 48 ≤ T j ∧ T j < 58) : 0 ≤ nv T 2 a 0 ∧ nv T 2 a 0 ≤ 99 := by
  have h0 := h a (by omega) (by omega)
  have h1 := h (a + 1) (by omega) (by omega)
  show 0 ≤ 10 * (10 * 0 + (T a - 48)) + (T (a + 1) - 48) ∧ 10 * (10 * 0 + (T a - 48)) + (T (a + 1) - 48) ≤ 99
  omega
theorem nv4_b {T : Int → Int} {a : Int} (h : ∀ j, a ≤ j → j < a + 4 → 48 ≤ T j ∧ T j < 58) : 0 ≤ nv T 4 a 0 ∧ nv T 4 a 0 ≤ 9999 := by
  have h0 := h a (by omega) (by omega)
  have h1 := h (a + 1) (by omega) (by omega)
  have h2 := h (a + 1 + 1) (by omega) (by omega)
  have h3 := h (a + 1 + 1 + 1) (by omega) (by omega)
  show 0 ≤ 10 * (10 * (10 * (10 * 0 + (T a - 48)) + (T (a + 1) - 48)) + (T (a + 1 + 1) - 48)) + (T (a + 1 + 1 + 1) - 48) ∧ 10 * (10 * (10 * (10 * 0 + (T a - 48)) + (T (a + 1) - 48)) + (T (a + 1 + 1) - 48)) + (T (a + 1 + 1 + 1) - 48) ≤ 9999
  omega
/-- what an event's signs say to the class -/
theorem ev_vals {x : LSt} {tt : Nat → Int} {a len n0 any : Int} (h : tE x tt len) (ha : 0 ≤ a) (hG : ∀ j, 0 ≤ j → j < 9 → evG tt len a n0 any j) : (lKey x a = tt a.toNat - 97 ∧ lNum x (wI (a + 1)) 4 = nv (fun j => tt j.toNat) 4 (a + 1) 0 ∧ lVal x (wI (a + 5)) = (if tt (a + 5).toNat = 45 then -(nv (fun j => tt j.toNat) 2 (a + 6) 0) else nv (fun j => tt j.toNat) 2 (a + 6) 0) ∧ lNum x (wI (a + 8)) 1 = tt (a + 8).toNat - 48) ∧ (0 ≤ lKey x a ∧ lKey x a ≤ 5) ∧ (0 ≤ lNum x (wI (a + 1)) 4 ∧ lNum x (wI (a + 1)) 4 ≤ 9999) ∧ (-99 ≤ lVal x (wI (a + 5)) ∧ lVal x (wI (a + 5)) ≤ 99) ∧ (0 ≤ lNum x (wI (a + 8)) 1 ∧ lNum x (wI (a + 8)) 1 ≤ 9 ∧ (any = 0 → lNum x (wI (a + 8)) 1 < n0)) := by
  have h80 := h.1
  have g0 := hG 0 (by decide) (by decide)
  have g5 := hG 5 (by decide) (by decide)
  have g8 := hG 8 (by decide) (by decide)
  unfold evG at g0 g5 g8
  rw [show a + 0 = a by omega] at g0
  have gd : ∀ j, 1 ≤ j → j < 8 → j ≠ 5 → 48 ≤ tt (a + j).toNat ∧ tt (a + j).toNat < 58 := fun j j0 j1 j5 => ((evG_d (by omega) j5 (by omega)).mp (hG j (by omega) (by omega))).2
  have d4 : ∀ j, a + 1 ≤ j → j < a + 1 + 4 → 48 ≤ tt j.toNat ∧ tt j.toNat < 58 := fun j j0 j1 => by
    have := gd (j - a) (by omega) (by omega) (by omega)
    rw [show a + (j - a) = j by omega] at this
    exact this
  have d2 : ∀ j, a + 6 ≤ j → j < a + 6 + 2 → 48 ≤ tt j.toNat ∧ tt j.toNat < 58 := fun j j0 j1 => by
    have := gd (j - a) (by omega) (by omega) (by omega)
    rw [show a + (j - a) = j by omega] at this
    exact this
  have d1 : ∀ j, a + 8 ≤ j → j < a + 8 + 1 → 48 ≤ tt j.toNat ∧ tt j.toNat < 58 := fun j j0 j1 => by
    rw [show j = a + 8 by omega]
    omega
  have k1 : lKey x a = tt a.toNat - 97 := by
    unfold lKey
    rw [h.sg ha g0.1, wI_id ⟨by omega, by omega⟩]
  have k2 : lNum x (wI (a + 1)) 4 = nv (fun j => tt j.toNat) 4 (a + 1) 0 := by
    rw [wI_id ⟨by omega, by omega⟩]
    exact lNum_nv h 4 rfl (by decide) (by omega) (by omega) d4
  have n2 : lNum x (wI (a + 5 + 1)) 2 = nv (fun j => tt j.toNat) 2 (a + 6) 0 := by
    rw [wI_id ⟨by omega, by omega⟩, show a + 5 + 1 = a + 6 by omega]
    exact lNum_nv h 2 rfl (by decide) (by omega) (by omega) d2
  have b2 := nv2_b (T := fun j => tt j.toNat) d2
  have b4 := nv4_b (T := fun j => tt j.toNat) d4
  have k3 : lVal x (wI (a + 5)) = (if tt (a + 5).toNat = 45 then -(nv (fun j => tt j.toNat) 2 (a + 6) 0) else nv (fun j => tt j.toNat) 2 (a + 6) 0) := by
    unfold lVal
    rw [wI_id (z := a + 5) ⟨by omega, by omega⟩, h.sg (by omega) g5.1, n2]
    split
    · rw [wI_id ⟨by omega, by omega⟩]
    · rfl
  have k4 : lNum x (wI (a + 8)) 1 = tt (a + 8).toNat - 48 := by
    rw [wI_id ⟨by omega, by omega⟩, lNum_nv h 1 rfl (by decide) (by omega) (by omega) d1, nv1]
  refine ⟨⟨k1, k2, k3, k4⟩, by rw [k1]; omega, by rw [k2]; exact b4, ?_, ?_⟩
  · rw [k3]
    split <;> omega
  · rw [k4]
    refine ⟨by omega, by omega, fun q => ?_⟩
    omega
end
-- 98994.mj
section
/-! ===== events(): both read and play the same ===== -/
theorem reR_1 (s : MS) (k any : Int) : (gRe s k any).1 = 0 ∨ (gRe s k any).1 = 1 := by
  rcases re_sp (s := s) (k := k) (any := any) rfl rfl rfl with ⟨i, -, e, -⟩ | ⟨-, e, -⟩
  · exact Or.inl e
  · exact Or.inr e
/-- what stands read under a number is the text's event at a place -/
def rdV (x : LSt) (s : MS) (j a : Int) : Prop := (s.2 5 j.toNat = lKey x a ∧ s.2 6 j.toNat = lNum x (wI (a + 1)) 4 ∧ s.2 7 j.toNat = lVal x (wI (a + 5)) ∧ s.2 8 j.toNat = lNum x (wI (a + 8)) 1) ∧ (0 ≤ lKey x a ∧ lKey x a ≤ 5) ∧ (0 ≤ lNum x (wI (a + 1)) 4 ∧ lNum x (wI (a + 1)) 4 ≤ 9999) ∧ (0 ≤ lNum x (wI (a + 8)) 1 ∧ lNum x (wI (a + 8)) 1 < wZ (x.2.2 0) 0)
theorem reL_em {x : LSt} {len : Int} (z4 : wZ (x.2.2 0) 0 ≤ 4) : ∀ (m : Nat) (a n : Int) (s : MS) (M : Nat), m ≤ M → s.1 5 = a → s.1 6 = len → tE x (s.2 2) len → mg s 0 = wZ (x.2.2 0) 0 → 0 ≤ a → 0 ≤ n → a ≤ len → len ≤ a + 9 * m → (0 ≤ emL x len m a → (reL M n s).1 = 0 ∧ (reL M n s).2.2.1 5 = emL x len m a) ∧ (emL x len m a < 0 → (reL M n s).1 = 1 ∧ n ≤ (reL M n s).2.1 ∧ 9 * ((reL M n s).2.1 - n) = len - a ∧ (∀ j, n ≤ j → j < (reL M n s).2.1 → rdV x (reL M n s).2.2 j (a + 9 * (j - n))) ∧ ∀ j, 0 ≤ j → j < n → (reL M n s).2.2.2 5 j.toNat = s.2 5 j.toNat ∧ (reL M n s).2.2.2 6 j.toNat = s.2 6 j.toNat ∧ (reL M n s).2.2.2 7 j.toNat = s.2 7 j.toNat ∧ (reL M n s).2.2.2 8 j.toNat = s.2 8 j.toNat)
  | 0, a, n, s, M, hM, h5, h6, hT, h0, ha, hn, hal, hlen => by
    have e : reL M n s = (1, n, s) := by
      match M with
      | 0 => rfl
      | M + 1 => exact if_pos (by omega)
    rw [e]
    exact ⟨fun q => absurd q (by show ¬ (0 : Int) ≤ -1; decide), fun _ => ⟨rfl, Int.le_refl _, by show 9 * (n - n) = _; omega, fun j j0 j1 => absurd j1 (by show ¬ j < n; omega), fun j _ _ => ⟨rfl, rfl, rfl, rfl⟩⟩⟩
  | m + 1, a, n, s, M, hM, h5, h6, hT, h0, ha, hn, hal, hlen => by
    match M, hM with
    | M + 1, hM =>
      by_cases c : len ≤ a
      · have e1 : emL x len (m + 1) a = -1 := if_pos c
        have e : reL (M + 1) n s = (1, n, s) := if_pos (by omega)
        rw [e, e1]
        exact ⟨fun q => absurd q (by decide), fun _ => ⟨rfl, Int.le_refl _, by show 9 * (n - n) = _; omega, fun j j0 j1 => absurd j1 (by show ¬ j < n; omega), fun j _ _ => ⟨rfl, rfl, rfl, rfl⟩⟩⟩
      · have iff := fq_ev0 hT ha z4
        have sp := lFm_sp x a len 0 9 slE.1
        have rs := re_sp (s := s) (k := n) (any := 0) rfl h6 h5
        rw [h0] at rs
        have e1 : emL x len (m + 1) a = if 0 ≤ lFm x a len 0 then lFm x a len 0 else emL x len m (a + 9) := if_neg c
        have e2 : reL (M + 1) n s = if (gRe s n 0).1 = 0 then (0, n, (gRe s n 0).2) else reL M (n + 1) (gRe s n 0).2 := if_neg (by omega)
        rw [e1, e2]
        rcases sp with ⟨i, hi, ei⟩ | ⟨hall, ei⟩
        · rcases rs with ⟨i', hi', r1, r2⟩ | ⟨hall', -⟩
          · have q := hi.one iff hi'
            subst q
            have p0 := hi.1
            rw [ei, if_pos (by omega), if_pos r1]
            exact ⟨fun _ => ⟨rfl, r2⟩, fun q => absurd q (by omega)⟩
          · exact (hi.no iff hall').elim
        · rcases rs with ⟨i', hi', -, -⟩ | ⟨hall', r1, r2, r5, r6, r7, r8, -⟩
          · exact (hi'.no (fun j j0 j1 => (iff j j0 j1).symm) hall).elim
          · rw [ei, if_neg (by decide), if_neg (by rw [r1]; decide)]
            have g8 := hall' 8 (by decide) (by decide)
            have g8 : a + 8 < len := g8.1
            obtain ⟨f1, -⟩ := gRe_f s n 0
            have t2 : (gRe s n 0).2.2 2 = s.2 2 := f1.2.1 2 (by decide) (by decide) (by decide) (by decide) (by decide)
            have t3 : (gRe s n 0).2.2 3 = s.2 3 := f1.2.1 3 (by decide) (by decide) (by decide) (by decide) (by decide)
            have t6 : (gRe s n 0).2.1 6 = len := (f1.1 6 (by decide)).trans h6
            have tm : mg (gRe s n 0).2 0 = wZ (x.2.2 0) 0 := (mg_cong t3 0).trans h0
            obtain ⟨⟨v5, v6, v7, v8⟩, b5, b6, -, b8, -, b8'⟩ := ev_vals hT ha hall'
            generalize (gRe s n 0).2 = u at r2 r5 r6 r7 r8 t2 t6 tm ⊢
            obtain ⟨ih1, ih2⟩ := reL_em z4 m (a + 9) (n + 1) u M (by omega) r2 t6 (by rw [t2]; exact hT) tm (by omega) (by omega) (by omega) (by omega)
            refine ⟨ih1, fun q => ?_⟩
            obtain ⟨k1, k2, k3, k4, k5⟩ := ih2 q
            refine ⟨k1, by omega, by omega, fun j j0 j1 => ?_, fun j j0 j1 => ?_⟩
            · by_cases ej : j = n
              · subst ej
                obtain ⟨w5, w6, w7, w8⟩ := k5 j (by omega) (by omega)
                rw [show a + 9 * (j - j) = a by omega]
                refine ⟨⟨?_, ?_, ?_, ?_⟩, b5, b6, b8, b8' rfl⟩
                · rw [w5, r5, xup_eq, v5]
                · rw [w6, r6, xup_eq, v6]
                · rw [w7, r7, xup_eq, v7]
                · rw [w8, r8, xup_eq, v8]
              · have := k4 j (by omega) j1
                rw [show a + 9 + 9 * (j - (n + 1)) = a + 9 * (j - n) by omega] at this
                exact this
            · obtain ⟨w5, w6, w7, w8⟩ := k5 j j0 (by omega)
              rw [w5, w6, w7, w8, r5, r6, r7, r8, xup_ne (by omega), xup_ne (by omega), xup_ne (by omega), xup_ne (by omega)]
              exact ⟨rfl, rfl, rfl, rfl⟩
theorem setW_setW (y : LSt) (w w' : WS) : setW (setW y 0 w) 0 w' = setW y 0 w' := by
  have : (fun j => bif Nat.beq j 0 then w' else (setW y 0 w).2.2 j) = (fun j => bif Nat.beq j 0 then w' else y.2.2 j) := by
    funext j
    by_cases e : j = 0
    · subst e; rfl
    · rw [bqF e]
      show (bif Nat.beq j 0 then w else y.2.2 j) = _
      rw [bqF e]
      rfl
  unfold setW at this ⊢
  rw [this]
theorem setW_same (y : LSt) : setW y 0 (y.2.2 0) = y := by
  have : (fun j => bif Nat.beq j 0 then y.2.2 0 else y.2.2 j) = y.2.2 := by
    funext j
    by_cases e : j = 0
    · subst e; rfl
    · rw [bqF e]; rfl
  unfold setW
  rw [this]
theorem rA.evz {w : WS} {g : Int → Int} {k t v r : Int} (h : rA w g) (h6 : g 6 < 160) (hk : 0 ≤ k ∧ k ≤ 5) (ht : 0 ≤ t ∧ t ≤ 9999) (hr : 0 ≤ r ∧ r < g 0) : wZ (wComeE w k t v r) 0 = wZ w 0 := by
  have i6 := h.2.1.1
  have hz := h.1.2.2.1
  rw [(h.event (v := v) h6 hk ht hr).1.2.2.1.1, pE1_ne ⟨hr.1, by omega⟩ (Or.inl (by decide)), nt1_ne (by decide) (by omega), hz.1]
/-- events played one by one -/
theorem cl_sp {x : LSt} {u : MS} {Q : Int → MS → Prop} {len : Int} : ∀ (n : Nat) (k t : Int) (M : Nat) (s : MS) (y : LSt), n ≤ M → 0 ≤ k → len = 9 * (k + n) → (∀ j, k ≤ j → j < k + n → rdV x u j (9 * j)) → y.2.1 1 = x.2.1 1 → (s.2 5 = u.2 5 ∧ s.2 6 = u.2 6 ∧ s.2 7 = u.2 7 ∧ s.2 8 = u.2 8) → rA (y.2.2 0) (gD 0 s) → wok (y.2.2 0) → dI 0 s → wZ (y.2.2 0) 0 = wZ (x.2.2 0) 0 → mg s (0 * 2804 + 6) + n ≤ 160 → (∀ t' s' w', evL len M (9 * k) t y = (t', setW y 0 w') → rA w' (gD 0 s') → wok w' → dI 0 s' → oD 0 s s' → Q t' s') → clP Q n k t s
  | 0, k, t, M, s, y, hM, hk, hl, hv, hx, ha, hr, ho, hd, hz, h6, kk => by
    refine kk t s (y.2.2 0) ?_ hr ho hd oD.same
    rw [setW_same]
    match M with
    | 0 => rfl
    | M + 1 => exact if_pos (by omega)
  | n + 1, k, t, M, s, y, hM, hk, hl, hv, hx, ha, hr, ho, hd, hz, h6, kk => by
    match M, hM with
    | M + 1, hM =>
      obtain ⟨⟨v5, v6, v7, v8⟩, b5, b6, b8⟩ := hv k (Int.le_refl _) (by omega)
      have g6 := hd.2.1
      have z0 := z0_eq (x := y) hr
      have i0 : mg s 0 ≤ 4 := hd.1.2
      -- what the class reads hangs on the text alone
      have lS : ∀ i, lSign y i = lSign x i := fun i => by unfold lSign; rw [hx]
      have nL : ∀ (f : Int) (q : Nat) (k v : Int), numL y f q k v = numL x f q k v := by
        intro f q
        induction q with
        | zero => intro k v; rfl
        | succ q ih => intro k v; rw [numL, numL, lS, ih]
      have nN : ∀ f d, lNum y f d = lNum x f d := fun f d => nL f _ _ _
      have nK : lKey y (9 * k) = lKey x (9 * k) := by unfold lKey; rw [lS]
      have nV : lVal y (wI (9 * k + 5)) = lVal x (wI (9 * k + 5)) := by unfold lVal; rw [lS, nN]
      have eA : lCEA y (9 * k) = setW y 0 (wComeE (y.2.2 0) (lKey x (9 * k)) (lNum x (wI (9 * k + 1)) 4) (lVal x (wI (9 * k + 5))) (lNum x (wI (9 * k + 8)) 1)) := by
        unfold lCEA
        rw [nK, nN, nV, nN]
      have eF : lCEF y (9 * k) = hw1 (gD 0 s) (lNum x (wI (9 * k + 1)) 4) := by
        unfold lCEF
        rw [nN, nN]
        exact hr.fate _ _
      have hh : mHow s 0 (lNum x (wI (9 * k + 1)) 4) = hw1 (gD 0 s) (lNum x (wI (9 * k + 1)) 4) := sA.self.how _
      have hb := hw1_b (gD 0 s) (lNum x (wI (9 * k + 1)) 4)
      have eL : evL len (M + 1) (9 * k) t y = evL len M (9 * k + 9) (if lCEF y (9 * k) = 2 then t else t + 1) (lCEA y (9 * k)) := if_neg (by omega)
      rw [eL, eF, eA] at kk
      refine ⟨⟨by rw [ha.2.2.2, v8]; omega, g6.1, by omega⟩, 650, ?_⟩
      rw [ha.1, ha.2.1, ha.2.2.1, ha.2.2.2, v5, v6, v7, v8, hh]
      refine hr.comeM hd ⟨by decide, by decide⟩ (by omega) b5 b6 ⟨b8.1, by rw [gD0]; omega⟩ (fun s' r' d' o e => ?_)
      have et : (if hw1 (gD 0 s) (lNum x (wI (9 * k + 1)) 4) = 2 then t else t + 1) = t + (if hw1 (gD 0 s) (lNum x (wI (9 * k + 1)) 4) < 2 then 1 else 0) := by
        split <;> split <;> omega
      rw [et] at kk
      refine cl_sp (x := x) (u := u) (len := len) n (k + 1) _ M s' (setW y 0 (wComeE (y.2.2 0) (lKey x (9 * k)) (lNum x (wI (9 * k + 1)) 4) (lVal x (wI (9 * k + 5))) (lNum x (wI (9 * k + 8)) 1))) (by omega) (by omega) (by omega) (fun j j0 j1 => hv j (by omega) (by omega)) hx ?_ r' (wok_ComeE ho) d' ?_ (by rw [e]; omega) (fun t' s2 w' e2 r2 o2 d2 oo => kk t' s2 w' ?_ r2 o2 d2 (o.trans oo))
      · rw [o.2.2 5 (by decide) (by decide), o.2.2 6 (by decide) (by decide), o.2.2 7 (by decide) (by decide), o.2.2 8 (by decide) (by decide)]
        exact ha
      · exact (hr.evz (by rw [gD0]; have g6 : mg s (0 * 2804 + 6) + _ ≤ 160 := h6; show mg s 6 < 160; have : mg s 6 = mg s (0 * 2804 + 6) := rfl; omega) b5 b6 ⟨b8.1, by rw [gD0]; omega⟩).trans hz
      · rw [show 9 * k + 9 = 9 * (k + 1) by omega, e2, setW_setW]
section SE
variable {x : LSt} {m : MS} {K : Int → PS → LSt → MS → Prop}
theorem st_events (h : lwR x m) (kk : ∀ q x' m', lwR x' m' → K q [pI q] x' m') : sX2_events x (fun v' x' => ∃ q, v' = [pI q] ∧ sX3_events m (fun w m' => K q w x' m')) := by
  have i4 := h.2.1.1
  have z := h.2.1.mok
  have z0 := z0_eq h.w0
  refine ⟨h.1, _, rfl, ⟨i4, z.1, h.2.1.six⟩, ?_⟩
  have hg := gRd_gd i4 z.1
  have f := reL_f 80 0 (gRd m) hg (by decide) (by show (0 : Int) ≤ 0; decide)
  have tE0 : tE (setS x 4 0) ((gRd m).2 2) (m.1 4) := ⟨i4.2, fun j j0 j1 => h.2.2.1.2 j j0 j1⟩
  have e := reL_em (x := setS x 4 0) (len := m.1 4) (by show wZ (x.2.2 0) 0 ≤ 4; omega) 10 0 0 (gRd m) 80 (by decide) rfl rfl tE0 z0.symm (by decide) (by decide) i4.1 (by omega)
  generalize reL 80 0 (gRd m) = p at f e ⊢
  obtain ⟨I, e4, e12⟩ := f.1.inv h.2.1
  have hu : lwR (setS x 4 0) p.2.2 := h.len ⟨Int.le_refl _, i4.1⟩ I e4 (f.1.1 8 (by decide)) (f.1.2 3 (by decide) (by decide) (by decide) (by decide) (by decide)) e12 (f.1.2 2 (by decide) (by decide) (by decide) (by decide) (by decide))
  have ex : fEvents x = fEv1 (setS x 4 0) (m.1 4) := by unfold fEvents; rw [h.2.2.1.1]
  rw [ex]
  generalize setS x 4 0 = y at e hu ⊢
  have z6 := (z6_eq hu.w0).1
  by_cases c : 0 ≤ lEm y (m.1 4)
  · obtain ⟨r1, r2⟩ := e.1 c
    have e1 : fEv1 y (m.1 4) = (-1 - lEm y (m.1 4), y) := if_pos c
    rw [e1]
    refine ⟨fun _ => ?_, fun q => absurd r1 q⟩
    rw [r2]
    exact kk _ _ _ hu
  · obtain ⟨r1, r2, r3, r4, -⟩ := e.2 (by unfold lEm at c; omega)
    have q6 : mg p.2.2 (0 * 2804 + 6) = mg p.2.2 6 := rfl
    refine ⟨fun q => absurd q (by rw [r1]; decide), fun _ => ⟨fun c6 => ?_, fun c6 => ?_⟩⟩
    · have e1 : fEv1 y (m.1 4) = (-3, y) := (if_neg c).trans (if_pos (by omega))
      rw [e1]
      exact kk _ _ _ hu
    · by_cases cN : 0 < p.2.1
      · have e1 : fEv1 y (m.1 4) = fEv2 (lRem y) (m.1 4) := (if_neg c).trans ((if_neg (by omega)).trans (if_pos (by omega)))
        rw [e1]
        have hp := hu.pre
        obtain ⟨⟨-, -, rt⟩, -, -, -⟩ := rem_c hu.1.1
        have rz := rem_0 hu.1.1
        have c7 : mg (mCopy p.2.2 0 3) (0 * 2804 + 6) = mg p.2.2 (0 * 2804 + 6) := copy_ne (by decide) (by decide) (by decide)
        refine cl_sp (x := y) (u := p.2.2) (len := m.1 4) p.2.1.toNat 0 0 10 (mCopy p.2.2 0 3) (lRem y) (by omega) (by decide) (by omega) (fun j j0 j1 => ?_) rt ⟨rfl, rfl, rfl, rfl⟩ (by rw [rz]; exact hp.w0) (by rw [rz]; exact hu.1.2.2.2 0 (by decide)) hp.2.1.2.2.2.1 (by rw [rz]) (by rw [c7]; omega) (fun t' s' w' e2 r' o' d' oo => ?_)
        · have := r4 j j0 (by omega)
          rw [show 0 + 9 * (j - 0) = 9 * j by omega] at this
          exact this
        · have e3 : evL (m.1 4) 10 0 0 (lRem y) = (t', setW (lRem y) 0 w') := e2
          have ef : ∃ a b, fEv2 (lRem y) (m.1 4) = (t', lTell2 (setW (lRem y) 0 w') a b) := ⟨_, _, by unfold fEv2; rw [e3]; rfl⟩
          obtain ⟨a, b, ef⟩ := ef
          rw [ef]
          have af := (Aft.of I d' oo).e2 (p := wI (mg s' (0 * 2804 + 7) - mg s' (3 * 2804 + 7))) (q := mg s' (0 * 2804 + 4))
          have d := hu.done (w' := w') af (rW.cong r' (fun c _ _ => rfl)) o'
          exact ⟨fun _ => ⟨af.uok, kk _ _ _ (d.ask (qx_2 d.1) (Qn.self d.2.1))⟩, fun q => absurd q (by omega)⟩
      · have e1 : fEv1 y (m.1 4) = fEv2 y (m.1 4) := (if_neg c).trans ((if_neg (by omega)).trans (if_neg (by omega)))
        rw [e1]
        have e3 : evL (m.1 4) 10 0 0 y = (0, y) := if_pos (by omega)
        have ef : ∃ a b, fEv2 y (m.1 4) = (0, lTell2 y a b) := ⟨_, _, by unfold fEv2; rw [e3]; rfl⟩
        obtain ⟨a, b, ef⟩ := ef
        rw [ef, show p.2.1.toNat = 0 by omega]
        have hp := hu.pre
        exact ⟨fun q => absurd q cN, fun _ => kk _ _ _ (hp.ask (qx_2 hp.1) (Qn.self hp.2.1).e2)⟩
end SE
end
-- 98995.mk
section
/-! ===== day(): both read and do the same ===== -/
def acV (x : LSt) (s : MS) (j a : Int) : Prop := (lSign x a = 101 ∧ s.2 11 j.toNat = 0 ∧ s.2 5 j.toNat = lKey x (wI (a + 1)) ∧ s.2 6 j.toNat = lNum x (wI (a + 2)) 4 ∧ s.2 7 j.toNat = lVal x (wI (a + 6)) ∧ s.2 8 j.toNat = lNum x (wI (a + 9)) 1) ∨ (lSign x a = 109 ∧ s.2 11 j.toNat = 1 ∧ s.2 8 j.toNat = lNum x (wI (a + 1)) 1 ∧ s.2 6 j.toNat = lNum x (wI (a + 2)) 5) ∨ (lSign x a ≠ 101 ∧ lSign x a ≠ 109 ∧ s.2 11 j.toNat = 2 ∧ s.2 8 j.toNat = lNum x (wI (a + 1)) 1)
def acL (x : LSt) (a : Int) : Int := 1 + slI (afJ x a)
/-- entries of other numbers stay -/
def acF (s s' : MS) (k : Int) : Prop := ∀ j : Nat, j ≠ k.toNat → s'.2 5 j = s.2 5 j ∧ s'.2 6 j = s.2 6 j ∧ s'.2 7 j = s.2 7 j ∧ s'.2 8 j = s.2 8 j ∧ s'.2 11 j = s.2 11 j
theorem raE3_neg (s : MS) (k : Int) : (raE3 (-1, s) k).1 = 0 ∧ (raE3 (-1, s) k).2.1 5 = s.1 5 := ⟨rfl, rfl⟩
theorem raE2_neg (s : MS) (k a : Int) : (raE2 (-1, s) k a).1 = 0 ∧ (raE2 (-1, s) k a).2.1 5 = s.1 5 := ⟨rfl, rfl⟩
theorem raE1_neg (s : MS) (k : Int) : (raE1 s k (-1)).1 = 0 ∧ (raE1 s k (-1)).2.1 5 = s.1 5 := ⟨rfl, rfl⟩
theorem fq_m {x : LSt} {tt : Nat → Int} {a len : Int} (h : tE x tt len) (ha : 0 ≤ a) : ∀ i, 0 ≤ i → i < 6 → (fq x a len 2 i ↔ (a + i < len ∧ 48 ≤ tt (a + i).toNat ∧ tt (a + i).toNat < 58)) := by
  intro i i0 i1
  obtain ⟨e0, e1, e2, e3, e4, e5⟩ := sbM
  have : i = 0 ∨ i = 1 ∨ i = 2 ∨ i = 3 ∨ i = 4 ∨ i = 5 := by omega
  rcases this with rfl | rfl | rfl | rfl | rfl | rfl
  · exact fq_d h (by omega) e0
  · exact fq_d h (by omega) e1
  · exact fq_d h (by omega) e2
  · exact fq_d h (by omega) e3
  · exact fq_d h (by omega) e4
  · exact fq_d h (by omega) e5
theorem gDg1 (s : MS) {a to : Int} {tt : Nat → Int} (h2 : s.2 2 = tt) (h6 : s.1 6 = to) (h5 : s.1 5 = a) : gDg s 1 = if a < to ∧ 48 ≤ tt a.toNat ∧ tt a.toNat < 58 then (tt a.toNat - 48, mS s 5 (a + 1)) else (-1, s) := by
  have eg1 : gDg s 1 = dgL 0 (dgV 0 (gTk s 6).1) (gTk s 6).2 := by
    show dgL 1 0 s = _
    rfl
  rw [eg1, gTk6, h2, h6, h5]
  by_cases c : a < to ∧ 48 ≤ tt a.toNat ∧ tt a.toNat < 58
  · rw [if_pos c]
    have : dgV 0 (tt a.toNat - 48) = tt a.toNat - 48 := by
      unfold dgV
      rw [if_neg (by omega)]
      omega
    show (dgV 0 (tt a.toNat - 48), mS s 5 (a + 1)) = _
    rw [this]
  · rw [if_neg c]
    rfl
theorem ra_sp {x : LSt} {s : MS} {k a len : Int} {tt : Nat → Int} (hT : tE x tt len) (h2 : s.2 2 = tt) (h6 : s.1 6 = len) (h5 : s.1 5 = a) (ha : 0 ≤ a) (hl : a < len) : (slI (afJ x a) = 0 ∧ (gRa s k).1 = 0 ∧ (gRa s k).2.1 5 = a) ∨ (slI (afJ x a) ≠ 0 ∧ 0 ≤ lFm x (a + 1) len (afJ x a) ∧ (gRa s k).1 = 0 ∧ (gRa s k).2.1 5 = lFm x (a + 1) len (afJ x a)) ∨ (slI (afJ x a) ≠ 0 ∧ lFm x (a + 1) len (afJ x a) < 0 ∧ (gRa s k).1 = 1 ∧ (gRa s k).2.1 5 = a + acL x a ∧ a + acL x a ≤ len ∧ acV x (gRa s k).2 k a ∧ acF s (gRa s k).2 k) := by
  have h80 := hT.1
  have sg := hT.sg ha hl
  obtain ⟨-, m1, m2, m3, -, l1, l2, l3, l4⟩ := slE
  have w1 : wI (a + 1) = a + 1 := wI_id ⟨by omega, by omega⟩
  have w2 : wI (a + 2) = a + 2 := wI_id ⟨by omega, by omega⟩
  have w6 : wI (a + 6) = a + 6 := wI_id ⟨by omega, by omega⟩
  have w9 : wI (a + 9) = a + 9 := wI_id ⟨by omega, by omega⟩
  unfold gRa
  rw [gTk8, h2, h6, h5, if_neg (by omega)]
  by_cases c1 : 101 = tt a.toNat
  · rw [if_pos c1]
    have ej : afJ x a = 1 := if_pos (by rw [sg]; exact c1.symm)
    have el : acL x a = 10 := by unfold acL; rw [ej, l1]; decide
    rw [ej, el]
    have e0 : raE0 (0, mS s 5 (a + 1)) k = gRe (st11 (0, mS s 5 (a + 1)) k) k 1 := if_pos rfl
    rw [e0]
    have iff := fq_ev1 (n0 := mg (st11 (0, mS s 5 (a + 1)) k) 0) hT (a := a + 1) (by omega)
    have rs := re_sp (s := st11 (0, mS s 5 (a + 1)) k) (k := k) (any := 1) (a := a + 1) (to := len) (tt := tt) h2 h6 rfl
    rcases lFm_sp x (a + 1) len 1 9 m1 with ⟨i, hi, ei⟩ | ⟨hall, ei⟩
    · rcases rs with ⟨i', hi', r1, r2⟩ | ⟨hall', -⟩
      · have q := hi.one iff hi'
        subst q
        have p0 := hi.1
        exact Or.inr (Or.inl ⟨by rw [l1]; decide, by rw [ei]; omega, r1, by rw [r2, ei]⟩)
      · exact (hi.no iff hall').elim
    · rcases rs with ⟨i', hi', -, -⟩ | ⟨hall', r1, r2, r5, r6, r7, r8, r11⟩
      · exact (hi'.no (fun j j0 j1 => (iff j j0 j1).symm) hall).elim
      · obtain ⟨⟨v5, v6, v7, v8⟩, -⟩ := ev_vals hT (by omega : 0 ≤ a + 1) hall'
        have g8 : a + 1 + 8 < len := (hall' 8 (by decide) (by decide)).1
        refine Or.inr (Or.inr ⟨by rw [l1]; decide, by rw [ei]; decide, r1, by rw [r2]; omega, by omega, Or.inl ⟨by rw [sg]; exact c1.symm, ?_, ?_, ?_, ?_, ?_⟩, fun j hj => ⟨?_, ?_, ?_, ?_, ?_⟩⟩)
        · rw [r11]; exact xup_eq
        · rw [r5, xup_eq, w1, v5]
        · rw [r6, xup_eq, show a + 2 = a + 1 + 1 by omega, v6]
        · rw [r7, xup_eq, show a + 6 = a + 1 + 5 by omega, v7]
        · rw [r8, xup_eq, show a + 9 = a + 1 + 8 by omega, v8]
        · rw [r5, xup_ne hj]; rfl
        · rw [r6, xup_ne hj]; rfl
        · rw [r7, xup_ne hj]; rfl
        · rw [r8, xup_ne hj]; rfl
        · rw [r11]; exact xup_ne hj
  · rw [if_neg c1]
    by_cases c2 : 109 = tt a.toNat
    · rw [if_pos c2]
      have ej : afJ x a = 2 := by
        unfold afJ
        rw [sg, if_neg (fun z => c1 z.symm), if_neg (by omega), if_pos c2.symm]
      have el : acL x a = 7 := by unfold acL; rw [ej, l2]; decide
      rw [ej, el]
      have e0 : raE0 (1, mS s 5 (a + 1)) k = raE1 (st11 (1, mS s 5 (a + 1)) k) k 1 := if_neg (by show ¬ (1 : Int) = 0; decide)
      have e1 : raE1 (st11 (1, mS s 5 (a + 1)) k) k 1 = raE2 (gDg (st11 (1, mS s 5 (a + 1)) k) 1) k 1 := if_neg (by decide)
      rw [e0, e1, gDg1 (st11 (1, mS s 5 (a + 1)) k) (a := a + 1) (to := len) (tt := tt) h2 h6 rfl]
      have iff := fq_m hT (a := a + 1) (by omega)
      by_cases c3 : a + 1 < len ∧ 48 ≤ tt (a + 1).toNat ∧ tt (a + 1).toNat < 58
      · rw [if_pos c3]
        have e2 : raE2 (tt (a + 1).toNat - 48, mS (st11 (1, mS s 5 (a + 1)) k) 5 (a + 1 + 1)) k 1 = raE3 (gDg (st8 (tt (a + 1).toNat - 48, mS (st11 (1, mS s 5 (a + 1)) k) 5 (a + 1 + 1)) k) 5) k := (if_neg (by show ¬ tt (a + 1).toNat - 48 < 0; omega)).trans (if_pos rfl)
        rw [e2]
        have d5 := dg_sp tt len (a + 1) (fun i => a + 1 + i < len ∧ 48 ≤ tt (a + 1 + i).toNat ∧ tt (a + 1 + i).toNat < 58) 5 1 0 (st8 (tt (a + 1).toNat - 48, mS (st11 (1, mS s 5 (a + 1)) k) 5 (a + 1 + 1)) k) h2 h6 rfl (by decide) (by decide) (fun j _ _ => Iff.rfl) (fun j j0 j1 => by rw [show j = 0 by omega, show a + 1 + 0 = a + 1 by omega]; exact c3)
        have eg : gDg (st8 (tt (a + 1).toNat - 48, mS (st11 (1, mS s 5 (a + 1)) k) 5 (a + 1 + 1)) k) 5 = dgL 5 0 (st8 (tt (a + 1).toNat - 48, mS (st11 (1, mS s 5 (a + 1)) k) 5 (a + 1 + 1)) k) := rfl
        rw [eg]
        rcases lFm_sp x (a + 1) len 2 6 m2 with ⟨i, hi, ei⟩ | ⟨hall, ei⟩
        · rcases d5 with ⟨i', hi', e⟩ | ⟨hall', -⟩
          · have q := hi.one iff hi'
            subst q
            have p0 := hi.1
            rw [e]
            obtain ⟨x1, x2⟩ := raE3_neg (mS (st8 (tt (a + 1).toNat - 48, mS (st11 (1, mS s 5 (a + 1)) k) 5 (a + 1 + 1)) k) 5 (a + 1 + i)) k
            exact Or.inr (Or.inl ⟨by rw [l2]; decide, by rw [ei]; omega, x1, by rw [x2, ei]; rfl⟩)
          · exact (hi.no iff hall').elim
        · rcases d5 with ⟨i', hi', -⟩ | ⟨hall', e⟩
          · exact (hi'.no (fun j j0 j1 => (iff j j0 j1).symm) hall).elim
          · rw [e]
            have gl : a + 1 + 5 < len := (hall' 5 (by decide) (by decide)).1
            have dd : ∀ j, a + 2 ≤ j → j < a + 2 + 5 → 48 ≤ tt j.toNat ∧ tt j.toNat < 58 := fun j j0 j1 => by
              have := (hall' (j - (a + 1)) (by omega) (by omega)).2
              rw [show a + 1 + (j - (a + 1)) = j by omega] at this
              exact this
            have nn := nv_nn (fun j => tt j.toNat) 5 (a + 1 + 1) 0 (by decide) (fun j j0 j1 => (dd j (by omega) (by omega)).1)
            have k5 : lNum x (wI (a + 2)) 5 = nv (fun j => tt j.toNat) 5 (a + 1 + 1) 0 := by
              rw [w2, show a + 1 + 1 = a + 2 by omega]
              exact lNum_nv hT 5 rfl (by decide) (by omega) (by omega) dd
            have k1 : lNum x (wI (a + 1)) 1 = tt (a + 1).toNat - 48 := by
              rw [w1, lNum_nv hT 1 rfl (by decide) (by omega) (by omega) (fun j j0 j1 => by rw [show j = a + 1 by omega]; exact c3.2), nv1]
            generalize nv (fun j => tt j.toNat) 5 (a + 1 + 1) 0 = v at nn k5 ⊢
            have e3 : raE3 (v, mS (st8 (tt (a + 1).toNat - 48, mS (st11 (1, mS s 5 (a + 1)) k) 5 (a + 1 + 1)) k) 5 (a + 1 + 1 + ((5 : Nat) : Int))) k = (1, st6 (v, mS (st8 (tt (a + 1).toNat - 48, mS (st11 (1, mS s 5 (a + 1)) k) 5 (a + 1 + 1)) k) 5 (a + 1 + 1 + ((5 : Nat) : Int))) k) := by
              unfold raE3
              rw [if_neg (by show ¬ v < 0; omega)]
            rw [e3]
            refine Or.inr (Or.inr ⟨by rw [l2]; decide, by rw [ei]; decide, rfl, by show a + 1 + 1 + ((5 : Nat) : Int) = a + 7; omega, by omega, Or.inr (Or.inl ⟨by rw [sg]; exact c2.symm, ?_, ?_, ?_⟩), fun j hj => ⟨rfl, ?_, rfl, ?_, ?_⟩⟩)
            · exact xup_eq
            · rw [k1]; exact xup_eq
            · rw [k5]; exact xup_eq
            · exact xup_ne hj
            · exact xup_ne hj
            · exact xup_ne hj
      · rw [if_neg c3]
        obtain ⟨x1, x2⟩ := raE2_neg (st11 (1, mS s 5 (a + 1)) k) k 1
        rcases lFm_sp x (a + 1) len 2 6 m2 with ⟨i, hi, ei⟩ | ⟨hall, ei⟩
        · have q : i = 0 := by
            have nf : ¬ fq x (a + 1) len 2 0 := fun z => c3 (by have := (iff 0 (by decide) (by decide)).mp z; rw [show a + 1 + 0 = a + 1 by omega] at this; exact this)
            rcases Int.lt_trichotomy i 0 with q | q | q
            · exact absurd hi.1 (by omega)
            · exact q
            · exact absurd (hi.2.2.1 0 (by decide) q) nf
          subst q
          exact Or.inr (Or.inl ⟨by rw [l2]; decide, by rw [ei]; omega, x1, by rw [x2, ei]; show a + 1 = a + 1 + 0; omega⟩)
        · exact absurd ((iff 0 (by decide) (by decide)).mp (hall 0 (by decide) (by decide))) (by rw [show a + 1 + 0 = a + 1 by omega]; exact c3)
    · rw [if_neg c2]
      by_cases c4 : 105 = tt a.toNat
      · rw [if_pos c4]
        have ej : afJ x a = 3 := by
          unfold afJ
          rw [sg, if_neg (fun z => c1 z.symm), if_pos c4.symm]
        have el : acL x a = 2 := by unfold acL; rw [ej, l3]; decide
        rw [ej, el]
        have e0 : raE0 (2, mS s 5 (a + 1)) k = raE1 (st11 (2, mS s 5 (a + 1)) k) k 2 := if_neg (by show ¬ (2 : Int) = 0; decide)
        have e1 : raE1 (st11 (2, mS s 5 (a + 1)) k) k 2 = raE2 (gDg (st11 (2, mS s 5 (a + 1)) k) 1) k 2 := if_neg (by decide)
        rw [e0, e1, gDg1 (st11 (2, mS s 5 (a + 1)) k) (a := a + 1) (to := len) (tt := tt) h2 h6 rfl]
        have iff := fq_d (x := x) (i := 0) (j := 3) (a := a + 1) hT (by omega) sbD
        rw [show a + 1 + 0 = a + 1 by omega] at iff
        by_cases c3 : a + 1 < len ∧ 48 ≤ tt (a + 1).toNat ∧ tt (a + 1).toNat < 58
        · rw [if_pos c3]
          have e2 : raE2 (tt (a + 1).toNat - 48, mS (st11 (2, mS s 5 (a + 1)) k) 5 (a + 1 + 1)) k 2 = (1, st6 (0, st8 (tt (a + 1).toNat - 48, mS (st11 (2, mS s 5 (a + 1)) k) 5 (a + 1 + 1)) k) k) := (if_neg (by show ¬ tt (a + 1).toNat - 48 < 0; omega)).trans (if_neg (by decide))
          rw [e2]
          have k1 : lNum x (wI (a + 1)) 1 = tt (a + 1).toNat - 48 := by
            rw [w1, lNum_nv hT 1 rfl (by decide) (by omega) (by omega) (fun j j0 j1 => by rw [show j = a + 1 by omega]; exact c3.2), nv1]
          rcases lFm_sp x (a + 1) len 3 1 m3 with ⟨i, hi, ei⟩ | ⟨hall, ei⟩
          · have q : i = 0 := by have := hi.1; have := hi.2.1; omega
            subst q
            exact absurd (iff.mpr c3) hi.2.2.2
          · refine Or.inr (Or.inr ⟨by rw [l3]; decide, by rw [ei]; decide, rfl, by show a + 1 + 1 = a + 2; omega, by omega, Or.inr (Or.inr ⟨by rw [sg]; exact fun z => c1 z.symm, by rw [sg]; exact fun z => c2 z.symm, ?_, ?_⟩), fun j hj => ⟨rfl, ?_, rfl, ?_, ?_⟩⟩)
            · exact xup_eq
            · rw [k1]; exact xup_eq
            · exact xup_ne hj
            · exact xup_ne hj
            · exact xup_ne hj
        · rw [if_neg c3]
          obtain ⟨x1, x2⟩ := raE2_neg (st11 (2, mS s 5 (a + 1)) k) k 2
          rcases lFm_sp x (a + 1) len 3 1 m3 with ⟨i, hi, ei⟩ | ⟨hall, ei⟩
          · have q : i = 0 := by have := hi.1; have := hi.2.1; omega
            subst q
            exact Or.inr (Or.inl ⟨by rw [l3]; decide, by rw [ei]; omega, x1, by rw [x2, ei]; show a + 1 = a + 1 + 0; omega⟩)
          · exact absurd (iff.mp (hall 0 (by decide) (by decide))) c3
      · rw [if_neg c4]
        have ej : afJ x a = 4 := by
          unfold afJ
          rw [sg, if_neg (fun z => c1 z.symm), if_neg (fun z => c4 z.symm), if_neg (fun z => c2 z.symm)]
        rw [ej]
        have e0 : raE0 (-1, s) k = raE1 (st11 (-1, s) k) k (-1) := if_neg (by show ¬ (-1 : Int) = 0; decide)
        rw [e0]
        obtain ⟨x1, x2⟩ := raE1_neg (st11 (-1, s) k) k
        exact Or.inl ⟨l4, x1, x2.trans h5⟩
/-- where acts stand -/
def acP (x : LSt) : Nat → Int → Int
  | 0, a => a
  | n + 1, a => acP x n (a + acL x a)
theorem raL_dm {x : LSt} {len : Int} : ∀ (m : Nat) (a n : Int) (s : MS) (M : Nat), m ≤ M → s.1 5 = a → s.1 6 = len → tE x (s.2 2) len → 0 ≤ a → 0 ≤ n → a ≤ len → len ≤ a + m → (0 ≤ dmL x len m a → (raL M n s).1 = 0 ∧ (raL M n s).2.2.1 5 = dmL x len m a) ∧ (dmL x len m a < 0 → (raL M n s).1 = 1 ∧ n ≤ (raL M n s).2.1 ∧ acP x ((raL M n s).2.1 - n).toNat a = len ∧ (∀ q : Nat, n + q < (raL M n s).2.1 → acV x (raL M n s).2.2 (n + q) (acP x q a) ∧ acP x q a < len) ∧ ∀ j : Nat, (j : Int) < n → (raL M n s).2.2.2 5 j = s.2 5 j ∧ (raL M n s).2.2.2 6 j = s.2 6 j ∧ (raL M n s).2.2.2 7 j = s.2 7 j ∧ (raL M n s).2.2.2 8 j = s.2 8 j ∧ (raL M n s).2.2.2 11 j = s.2 11 j)
  | 0, a, n, s, M, hM, h5, h6, hT, ha, hn, hal, hlen => by
    have e : raL M n s = (1, n, s) := by
      match M with
      | 0 => rfl
      | M + 1 => exact if_pos (by omega)
    rw [e]
    refine ⟨fun q => absurd q (by show ¬ (0 : Int) ≤ -1; decide), fun _ => ⟨rfl, Int.le_refl _, ?_, fun q hq => absurd hq (by show ¬ n + _ < n; omega), fun j _ => ⟨rfl, rfl, rfl, rfl, rfl⟩⟩⟩
    show acP x (n - n).toNat a = len
    rw [show (n - n).toNat = 0 by omega]
    show a = len
    omega
  | m + 1, a, n, s, M, hM, h5, h6, hT, ha, hn, hal, hlen => by
    match M, hM with
    | M + 1, hM =>
      by_cases c : len ≤ a
      · have e1 : dmL x len (m + 1) a = -1 := if_pos c
        have e : raL (M + 1) n s = (1, n, s) := if_pos (by omega)
        rw [e, e1]
        refine ⟨fun q => absurd q (by decide), fun _ => ⟨rfl, Int.le_refl _, ?_, fun q hq => absurd hq (by show ¬ n + _ < n; omega), fun j _ => ⟨rfl, rfl, rfl, rfl, rfl⟩⟩⟩
        show acP x (n - n).toNat a = len
        rw [show (n - n).toNat = 0 by omega]
        show a = len
        omega
      · have e1 : dmL x len (m + 1) a = if slI (afJ x a) = 0 then a else if 0 ≤ lFm x (a + 1) len (afJ x a) then lFm x (a + 1) len (afJ x a) else dmL x len m (a + (1 + slI (afJ x a))) := if_neg c
        have e2 : raL (M + 1) n s = if (gRa s n).1 = 0 then (0, n, (gRa s n).2) else raL M (n + 1) (gRa s n).2 := if_neg (by omega)
        rw [e1, e2]
        rcases ra_sp (k := n) hT rfl h6 h5 ha (by omega) with ⟨p1, p2, p3⟩ | ⟨p1, p0, p2, p3⟩ | ⟨p1, p0, p2, p3, p4, p5, p6⟩
        · rw [if_pos p1, if_pos p2]
          exact ⟨fun _ => ⟨rfl, p3⟩, fun q => absurd q (by omega)⟩
        · rw [if_neg p1, if_pos p0, if_pos p2]
          exact ⟨fun _ => ⟨rfl, p3⟩, fun q => absurd q (by omega)⟩
        · rw [if_neg p1, if_neg (by omega), if_neg (by rw [p2]; decide)]
          obtain ⟨f1, -⟩ := gRa_f s n
          have t2 : (gRa s n).2.2 2 = s.2 2 := f1.2.1 2 (by decide) (by decide) (by decide) (by decide) (by decide)
          have t6 : (gRa s n).2.1 6 = len := (f1.1 6 (by decide)).trans h6
          have lp : 1 ≤ acL x a := by
            unfold acL
            have : 0 ≤ slI (afJ x a) := by unfold slI; omega
            omega
          have ep : a + (1 + slI (afJ x a)) = a + acL x a := rfl
          rw [ep]
          generalize (gRa s n).2 = u at p3 p5 p6 t2 t6 ⊢
          obtain ⟨ih1, ih2⟩ := raL_dm m (a + acL x a) (n + 1) u M (by omega) p3 t6 (by rw [t2]; exact hT) (by omega) (by omega) p4 (by omega)
          refine ⟨ih1, fun q => ?_⟩
          obtain ⟨k1, k2, k3, k4, k5⟩ := ih2 q
          refine ⟨k1, by omega, ?_, fun q hq => ?_, fun j hj => ?_⟩
          · rw [show ((raL M (n + 1) u).2.1 - n).toNat = ((raL M (n + 1) u).2.1 - (n + 1)).toNat + 1 by omega]
            exact k3
          · match q, hq with
            | 0, hq =>
              refine ⟨?_, by show a < len; omega⟩
              obtain ⟨w5, w6, w7, w8, w11⟩ := k5 n.toNat (by omega)
              rw [show n + ((0 : Nat) : Int) = n by omega]
              unfold acV at p5 ⊢
              rw [w5, w6, w7, w8, w11]
              exact p5
            | q + 1, hq =>
              have := k4 q (by omega)
              rw [show n + 1 + (q : Int) = n + ((q + 1 : Nat) : Int) by omega] at this
              exact this
          · obtain ⟨w5, w6, w7, w8, w11⟩ := k5 j (by omega)
            obtain ⟨v5, v6, v7, v8, v11⟩ := p6 j (by omega)
            exact ⟨w5.trans v5, w6.trans v6, w7.trans v7, w8.trans v8, w11.trans v11⟩
/-- one act -/
theorem act_ok {x y : LSt} {u s : MS} {d a : Int} {R : Int → MS → Prop} (hv : acV x u d a) (hx : y.2.1 1 = x.2.1 1) (ha : s.2 5 = u.2 5 ∧ s.2 6 = u.2 6 ∧ s.2 7 = u.2 7 ∧ s.2 8 = u.2 8 ∧ s.2 11 = u.2 11) (hr : rA (y.2.2 0) (gD 0 s)) (ho : wok (y.2.2 0)) (hd : dI 0 s) (bd : 0 ≤ d ∧ d < 80) (k0 : lActR y a < 0 → ∀ b, b < 0 → R b s) (kk : ¬ lActR y a < 0 → ∀ b s' w', 0 ≤ b → (∀ z : LSt, z.2.2 0 = y.2.2 0 → z.2.1 1 = y.2.1 1 → lAct z a = setW z 0 w') → rA w' (gD 0 s') → wok w' → dI 0 s' → oD 0 s s' → R b s') : doP d s R := by
  have i0 : 1 ≤ mg s 0 ∧ mg s 0 ≤ 4 := hd.1
  have lS : ∀ z : LSt, z.2.1 1 = y.2.1 1 → ∀ i, lSign z i = lSign x i := fun z hz i => by unfold lSign; rw [hz, hx]
  have nL : ∀ z : LSt, z.2.1 1 = y.2.1 1 → ∀ (f : Int) (q : Nat) (k v : Int), numL z f q k v = numL x f q k v := by
    intro z hz f q
    induction q with
    | zero => intro k v; rfl
    | succ q ih => intro k v; rw [numL, numL, lS z hz, ih]
  have nN : ∀ z : LSt, z.2.1 1 = y.2.1 1 → ∀ f d, lNum z f d = lNum x f d := fun z hz f d => nL z hz f _ _ _
  have nK : ∀ z : LSt, z.2.1 1 = y.2.1 1 → ∀ b, lKey z b = lKey x b := fun z hz b => by unfold lKey; rw [lS z hz]
  have nV : ∀ z : LSt, z.2.1 1 = y.2.1 1 → ∀ b, lVal z b = lVal x b := fun z hz b => by unfold lVal; rw [lS z hz, nN z hz]
  refine ⟨⟨bd, by omega, i0.2⟩, fun q => ?_, fun q => ⟨fun q1 => ?_, fun q1 => ?_⟩⟩
  · rcases hv with ⟨v0, v11, v5, v6, v7, v8⟩ | ⟨v0, v11, -⟩ | ⟨v0, v1, v11, -⟩
    · have eR : lActR y a = lEvR y (lKey x (wI (a + 1))) (lNum x (wI (a + 2)) 4) (lVal x (wI (a + 6))) (lNum x (wI (a + 9)) 1) := by
        unfold lActR
        rw [lS y rfl, if_pos v0, nK y rfl, nN y rfl, nV y rfl, nN y rfl]
      rw [eR] at k0 kk
      rw [ha.1, ha.2.1, ha.2.2.1, ha.2.2.2.1, v5, v6, v7, v8]
      exact ⟨650, evP_ok hr hd (fun c _ => k0 c _ c) (fun c s' r' d' o _ => kk c _ s' _ (by have := wFate_b (wNote (y.2.2 0) 0 (lNum x (wI (a + 9)) 1) (lNum x (wI (a + 2)) 4)) (lNum x (wI (a + 2)) 4); omega) (fun z hz hz1 => by
        unfold lAct
        rw [lS z hz1, if_pos v0, nK z hz1, nN z hz1, nV z hz1, nN z hz1, hz]) r' (wok_ComeE ho) d' o)⟩
    · rw [ha.2.2.2.2, v11] at q
      exact absurd q (by decide)
    · rw [ha.2.2.2.2, v11] at q
      exact absurd q (by decide)
  · rcases hv with ⟨v0, v11, -⟩ | ⟨v0, v11, v8, v6⟩ | ⟨v0, v1, v11, -⟩
    · rw [ha.2.2.2.2, v11] at q
      exact absurd rfl q
    · have eR : lActR y a = lMkR y (lNum x (wI (a + 1)) 1) (lNum x (wI (a + 2)) 5) := by
        unfold lActR
        rw [lS y rfl, if_neg (by rw [v0]; decide), if_pos v0, nN y rfl, nN y rfl]
      rw [eR] at k0 kk
      rw [ha.2.1, ha.2.2.2.1, v8, v6]
      exact ⟨650, mkP_ok hr hd (fun c _ => k0 c _ c) (fun c b s' hb r' d' o _ => kk c b s' _ hb (fun z hz hz1 => by
        unfold lAct
        rw [lS z hz1, if_neg (by rw [v0]; decide), if_pos v0, nN z hz1, nN z hz1, hz]) r' (wok_ComeM ho) d' o)⟩
    · rw [ha.2.2.2.2, v11] at q1
      exact absurd q1 (by decide)
  · rcases hv with ⟨v0, v11, -⟩ | ⟨v0, v11, -⟩ | ⟨v0, v1, v11, v8⟩
    · rw [ha.2.2.2.2, v11] at q
      exact absurd rfl q
    · rw [ha.2.2.2.2, v11] at q1
      exact absurd rfl q1
    · have eR : lActR y a = lIdR y (lNum x (wI (a + 1)) 1) := by
        unfold lActR
        rw [lS y rfl, if_neg v0, if_neg v1, nN y rfl]
      rw [eR] at k0 kk
      rw [ha.2.2.2.1, v8]
      exact ⟨650, idP_ok hr hd (fun c _ => k0 c _ c) (fun c b s' hb r' d' o _ => kk c b s' _ hb (fun z hz hz1 => by
        unfold lAct
        rw [lS z hz1, if_neg v0, if_neg v1, nN z hz1, hz]) r' (wok_ComeI ho) d' o)⟩
theorem af_text {x z : LSt} (h : z.2.1 1 = x.2.1 1) (a : Int) : afJ z a = afJ x a := by
  have lS : lSign z a = lSign x a := by unfold lSign; rw [h]
  unfold afJ
  rw [lS]
/-- acts done one by one, behind the first -/
theorem da_sp {x : LSt} {u : MS} {Q : Int → MS → Prop} {len N : Int} (hN : N ≤ 80) : ∀ (n : Nat) (d a : Int) (M : Nat) (s : MS) (y : LSt), n ≤ M → 1 ≤ d → d + n = N → acP x n a = len → (∀ q : Nat, q < n → acV x u (d + q) (acP x q a) ∧ acP x q a < len) → y.2.1 1 = x.2.1 1 → (s.2 5 = u.2 5 ∧ s.2 6 = u.2 6 ∧ s.2 7 = u.2 7 ∧ s.2 8 = u.2 8 ∧ s.2 11 = u.2 11) → rA (y.2.2 0) (gD 0 s) → wok (y.2.2 0) → dI 0 s → (∀ d' s' w', dyL len M a d y = (d', (if d' < N then 1 else 0), setW y 0 w') → d ≤ d' → rA w' (gD 0 s') → wok w' → dI 0 s' → oD 0 s s' → Q d' s') → daP Q n d s
  | 0, d, a, M, s, y, hM, h1, hdn, hp, hv, hx, ha, hr, ho, hd, kk => by
    refine kk d s (y.2.2 0) ?_ (Int.le_refl _) hr ho hd oD.same
    have hp : a = len := hp
    rw [setW_same, if_neg (by omega)]
    match M with
    | 0 => rfl
    | M + 1 => exact if_pos (by omega)
  | n + 1, d, a, M, s, y, hM, h1, hdn, hp, hv, hx, ha, hr, ho, hd, kk => by
    match M, hM with
    | M + 1, hM =>
      obtain ⟨v0, v1⟩ := hv 0 (by omega)
      rw [show d + ((0 : Nat) : Int) = d by omega] at v0
      have v0 : acV x u d a := v0
      have v1 : a < len := v1
      have eL : dyL len (M + 1) a d y = if lActR y a < 0 then (d, 1, y) else if d = 0 then dyL len M (a + (1 + slI (afJ (lAct (lRem y) a) a))) (d + 1) (lAct (lRem y) a) else dyL len M (a + (1 + slI (afJ (lAct y a) a))) (d + 1) (lAct y a) := if_neg (by omega)
      refine act_ok (R := fun b s' => (b < 0 → Q d s') ∧ (0 ≤ b → daP Q n (d + 1) s')) v0 hx ha hr ho hd ⟨by omega, by omega⟩ (fun c b hb => ⟨fun _ => ?_, fun q => absurd q (by omega)⟩) (fun c b s' w' hb el r' o' d' oo => ⟨fun q => absurd q (by omega), fun _ => ?_⟩)
      · refine kk d s (y.2.2 0) ?_ (Int.le_refl _) hr ho hd oD.same
        rw [eL, if_pos c, setW_same, if_pos (by omega)]
      · rw [eL, if_neg c, if_neg (by omega), el y rfl rfl] at kk
        rw [show 1 + slI (afJ (setW y 0 w') a) = acL x a from by unfold acL; rw [af_text (x := x) (z := setW y 0 w') hx a]] at kk
        refine da_sp (x := x) (u := u) (len := len) hN n (d + 1) (a + acL x a) M s' (setW y 0 w') (by omega) (by omega) (by omega) hp (fun q hq => ?_) hx ?_ r' o' d' (fun d2 s2 w2 e2 l2 r2 o2 d2' oo2 => kk d2 s2 w2 (by rw [e2, setW_setW]) (by omega) r2 o2 d2' (oo.trans oo2))
        · have := hv (q + 1) (by omega)
          rw [show d + ((q + 1 : Nat) : Int) = d + 1 + (q : Int) by omega] at this
          exact this
        · rw [oo.2.2 5 (by decide) (by decide), oo.2.2 6 (by decide) (by decide), oo.2.2 7 (by decide) (by decide), oo.2.2 8 (by decide) (by decide), oo.2.2 11 (by decide) (by decide)]
          exact ha
theorem dyL_end {len a d : Int} {y : LSt} (M : Nat) (h : len ≤ a) : dyL len (M + 1) a d y = (d, 0, y) := if_pos h
theorem dyL_go {len a d : Int} {y : LSt} (M : Nat) (h : ¬ len ≤ a) : dyL len (M + 1) a d y = if lActR y a < 0 then (d, 1, y) else if d = 0 then dyL len M (a + (1 + slI (afJ (lAct (lRem y) a) a))) (d + 1) (lAct (lRem y) a) else dyL len M (a + (1 + slI (afJ (lAct y a) a))) (d + 1) (lAct y a) := if_neg h
section SD
variable {x : LSt} {m : MS} {K : Int → PS → LSt → MS → Prop}
theorem st_day (h : lwR x m) (kk : ∀ q x' m', lwR x' m' → K q [pI q] x' m') : sX2_day x (fun v' x' => ∃ q, v' = [pI q] ∧ sX3_day m (fun w m' => K q w x' m')) := by
  have i4 := h.2.1.1
  have z := h.2.1.mok
  refine ⟨h.1, _, rfl, ⟨i4, z.1⟩, ?_⟩
  have hg := gRd_gd i4 z.1
  have f := raL_f 80 0 (gRd m) hg (by decide) (by show (0 : Int) ≤ 0; decide)
  have tE0 : tE (setS x 4 0) ((gRd m).2 2) (m.1 4) := ⟨i4.2, fun j j0 j1 => h.2.2.1.2 j j0 j1⟩
  have e := raL_dm (x := setS x 4 0) (len := m.1 4) 80 0 0 (gRd m) 80 (by decide) rfl rfl tE0 (by decide) (by decide) i4.1 (by omega)
  generalize raL 80 0 (gRd m) = p at f e ⊢
  obtain ⟨I, e4, e12⟩ := f.1.inv h.2.1
  have hu : lwR (setS x 4 0) p.2.2 := h.len ⟨Int.le_refl _, i4.1⟩ I e4 (f.1.1 8 (by decide)) (f.1.2 3 (by decide) (by decide) (by decide) (by decide) (by decide)) e12 (f.1.2 2 (by decide) (by decide) (by decide) (by decide) (by decide))
  have ex : fDay x = fDy1 (setS x 4 0) (m.1 4) := by unfold fDay; rw [h.2.2.1.1]
  rw [ex]
  generalize setS x 4 0 = y at e hu ⊢
  by_cases c : 0 ≤ lDm y (m.1 4)
  · obtain ⟨r1, r2⟩ := e.1 c
    have e1 : fDy1 y (m.1 4) = (-1 - lDm y (m.1 4), y) := if_pos c
    rw [e1]
    refine ⟨fun _ => ?_, fun q => absurd r1 q⟩
    rw [r2]
    exact kk _ _ _ hu
  · obtain ⟨r1, r2, r3, r4, -⟩ := e.2 (by unfold lDm at c; omega)
    refine ⟨fun q => absurd q (by rw [r1]; decide), fun _ => ?_⟩
    have e1 : fDy1 y (m.1 4) = fDy3 (dyL (m.1 4) 80 0 0 y) ((y.2.2 0).1 4) := if_neg c
    rw [e1]
    have hp := hu.pre
    have b80 : p.2.1 ≤ 80 := by have := f.2.2; omega
    -- nothing was done
    have none : ∀ fl, (fl = 0 ∨ fl = 1) → dyL (m.1 4) 80 0 0 y = (0, fl, y) → fl = (if 0 < p.2.1 then 1 else 0) → daE p.2.1 (fun w m' => K (fDy3 (dyL (m.1 4) 80 0 0 y) ((y.2.2 0).1 4)).1 w (fDy3 (dyL (m.1 4) 80 0 0 y) ((y.2.2 0).1 4)).2 m') 0 (mCopy p.2.2 0 3) := by
      intro fl _ ed efl
      have ef : ∃ a b, fDy3 (dyL (m.1 4) 80 0 0 y) ((y.2.2 0).1 4) = (0, lTell2 y a b) := ⟨_, _, by rw [ed]; rfl⟩
      obtain ⟨a, b, ef⟩ := ef
      rw [ef]
      exact ⟨fun q => absurd q (by decide), fun _ => kk _ _ _ (hp.ask (qx_2 hp.1) (Qn.self hp.2.1).e2)⟩
    by_cases cN : p.2.1 = 0
    · rw [cN, show (0 : Int).toNat = 0 from rfl]
      have a0 : (0 : Int) = m.1 4 := by
        rw [cN] at r3
        exact r3
      have := none 0 (Or.inl rfl) (dyL_end 79 (by omega)) (by rw [if_neg (by omega)])
      rw [cN] at this
      exact this
    · have n1 : p.2.1.toNat = (p.2.1.toNat - 1) + 1 := by omega
      have q0 := r4 0 (by omega)
      rw [show (0 : Int) + ((0 : Nat) : Int) = 0 by decide] at q0
      obtain ⟨v0, v1⟩ := q0
      have v0 : acV y p.2.2 0 0 := v0
      have v1 : 0 < m.1 4 := v1
      rw [n1]
      have eL : dyL (m.1 4) 80 0 0 y = if lActR y 0 < 0 then (0, 1, y) else dyL (m.1 4) 79 (0 + (1 + slI (afJ (lAct (lRem y) 0) 0))) (0 + 1) (lAct (lRem y) 0) := by
        have := dyL_go (y := y) (d := 0) 79 (show ¬ m.1 4 ≤ 0 by omega)
        rw [if_pos rfl] at this
        exact this
      obtain ⟨⟨-, -, rt⟩, -, -, -⟩ := rem_c hu.1.1
      refine act_ok (x := y) (u := p.2.2) (R := fun b s' => (b < 0 → _) ∧ (0 ≤ b → _)) v0 rfl ⟨rfl, rfl, rfl, rfl, rfl⟩ hp.w0 (hu.1.2.2.2 0 (by decide)) hp.2.1.2.2.2.1 (by decide) (fun cc b hb => ⟨fun _ => none 1 (Or.inr rfl) (by rw [eL, if_pos cc]) (by rw [if_pos (by omega)]), fun q => absurd q (by omega)⟩) (fun cc b s' w' hb el r' o' d' oo => ⟨fun q => absurd q (by omega), fun _ => ?_⟩)
      have el2 : lAct (lRem y) 0 = setW (lRem y) 0 w' := el (lRem y) (rem_0 hu.1.1) rt
      rw [if_neg cc, el2, show 1 + slI (afJ (setW (lRem y) 0 w') 0) = acL y 0 from by unfold acL; rw [af_text (x := y) (z := setW (lRem y) 0 w') rt 0]] at eL
      refine da_sp (x := y) (u := p.2.2) (len := m.1 4) b80 (p.2.1.toNat - 1) (0 + 1) (0 + acL y 0) 79 s' (setW (lRem y) 0 w') (by omega) (by decide) (by omega) ?_ (fun q hq => ?_) rt ?_ r' o' d' (fun d2 s2 w2 e2 l2 r2 o2 d2' oo2 => ?_)
      · rw [show (p.2.1 - 0).toNat = (p.2.1.toNat - 1) + 1 by omega] at r3
        exact r3
      · have := r4 (q + 1) (by omega)
        rw [show (0 : Int) + ((q + 1 : Nat) : Int) = 0 + 1 + (q : Int) by omega] at this
        exact this
      · rw [oo.2.2 5 (by decide) (by decide), oo.2.2 6 (by decide) (by decide), oo.2.2 7 (by decide) (by decide), oo.2.2 8 (by decide) (by decide), oo.2.2 11 (by decide) (by decide)]
        exact ⟨rfl, rfl, rfl, rfl, rfl⟩
      · rw [setW_setW] at e2
        have ef : ∃ a b, fDy3 (dyL (m.1 4) 80 0 0 y) ((y.2.2 0).1 4) = (d2, lTell2 (setW (lRem y) 0 w2) a b) := ⟨_, _, by rw [eL, e2]; rfl⟩
        obtain ⟨a, b, ef⟩ := ef
        rw [ef]
        have af := (Aft.of I d2' (oo.trans oo2)).e2 (p := if d2 < p.2.1 then 1 else 0) (q := wI (mg s2 (0 * 2804 + 7) - mg s2 (3 * 2804 + 7)))
        have d := hu.done (w' := w2) af (rW.cong r2 (fun c _ _ => rfl)) o2
        exact ⟨fun _ => ⟨af.uok, kk _ _ _ (d.ask (qx_2 d.1) (Qn.self d.2.1))⟩, fun q => absurd q (by omega)⟩
end SD
end
-- 98996.ml
section
/-! ===== questions: both sides stay alike; some answers ===== -/
section QS
variable {x : LSt} {m : MS} {K : Int → PS → LSt → MS → Prop}
theorem st_taken (h : lwR x m) (kk : ∀ q x' m', lwR x' m' → K q [pI q] x' m') : sX2_taken x (fun v' x' => ∃ q, v' = [pI q] ∧ sX3_taken m (fun w m' => K q w x' m')) := by
  have e : (gTaken m).1 = (fTaken x).1 := by
    have := h.w0.1.2.1.1
    rw [gD0] at this
    exact this.symm
  refine ⟨_, rfl, ?_⟩
  show K (fTaken x).1 [pI (gTaken m).1] (fTaken x).2 (gTaken m).2
  rw [e]
  exact kk _ _ _ (h.ask (qx_taken h.1) (qn_taken h.2.1))
theorem st_at {k t : Int} (hk : xB k) (ht : xB t) (h : lwR x m) (kk : ∀ q b x' m', lwR x' m' → K q [pI b] x' m') : sX2_at k t x (fun v' x' => ∃ q, v' = [pI q] ∧ sX3_at k t m (fun w m' => K q w x' m')) :=
  ⟨⟨hk, ht⟩, _, rfl, ⟨⟨hk, ht⟩, h.2.1.five⟩, kk _ _ _ _ (h.ask (qx_at h.1) (qn_at h.2.1))⟩
theorem st_sent {k : Int} (hk : xB k) (h : lwR x m) (kk : ∀ q b x' m', lwR x' m' → K q [pI b] x' m') : sX2_sent k x (fun v' x' => ∃ q, v' = [pI q] ∧ sX3_sent k m (fun w m' => K q w x' m')) :=
  ⟨hk, _, rfl, hk, kk _ _ _ _ (h.ask (qx_sent h.1) (qn_sent h.2.1))⟩
theorem st_stands (h : lwR x m) (kk : ∀ q b x' m', lwR x' m' → K q [pI b] x' m') : sX2_stands x (fun v' x' => ∃ q, v' = [pI q] ∧ sX3_stands m (fun w m' => K q w x' m')) :=
  ⟨_, rfl, h.2.1.five, kk _ _ _ _ (h.ask (qx_stands h.1) (qn_stands h.2.1))⟩
theorem st_closed {k : Int} (hk : xB k) (h : lwR x m) (kk : ∀ q b x' m', lwR x' m' → K q [pI b] x' m') : sX2_closed k x (fun v' x' => ∃ q, v' = [pI q] ∧ sX3_closed k m (fun w m' => K q w x' m')) :=
  ⟨hk, _, rfl, hk, kk _ _ _ _ (h.ask (qx_closed h.1) (qn_closed h.2.1))⟩
theorem st_kinds {k : Int} (hk : xB k) (h : lwR x m) (kk : ∀ q b x' m', lwR x' m' → K q [pI b] x' m') : sX2_kinds k x (fun v' x' => ∃ q, v' = [pI q] ∧ sX3_kinds k m (fun w m' => K q w x' m')) :=
  ⟨hk, _, rfl, hk, kk _ _ _ _ (h.ask (qx_kinds h.1) (qn_kinds h.2.1))⟩
theorem st_slow (h : lwR x m) (kk : ∀ q b x' m', lwR x' m' → K q [pI b] x' m') : sX2_slow x (fun v' x' => ∃ q, v' = [pI q] ∧ sX3_slow m (fun w m' => K q w x' m')) :=
  ⟨_, rfl, ⟨h.2.1.mok, h.2.1.five⟩, kk _ _ _ _ (h.ask (qx_slow h.1) (qn_slow h.2.1 (fun j j0 j1 => idle_eq h.w0 ⟨j0, j1⟩)))⟩
theorem st_span {f t : Int} (hf : xB f) (ht : xB t) (h : lwR x m) (kk : ∀ q b x' m', lwR x' m' → K q [pI b] x' m') : sX2_span f t x (fun v' x' => ∃ q, v' = [pI q] ∧ sX3_span f t m (fun w m' => K q w x' m')) :=
  ⟨⟨hf, ht⟩, _, rfl, ⟨⟨hf, ht⟩, h.2.1.six.2⟩, fun _ => kk _ _ _ _ (h.ask (qx_span h.1) h.2.1.n0), fun _ => kk _ _ _ _ (h.ask (qx_span h.1) (qn_span h.2.1))⟩
theorem st_holds (h : lwR x m) (kk : ∀ q b x' m', lwR x' m' → K q [pI b] x' m') : sX2_holds x (fun v' x' => ∃ q, v' = [pI q] ∧ sX3_holds m (fun w m' => K q w x' m')) :=
  ⟨_, rfl, h.2.1.mok, kk _ _ _ _ (h.ask (qx_holds h.1) (qn_holds h.2.1))⟩
theorem st_next (h : lwR x m) (kk : ∀ q b x' m', lwR x' m' → K q [pI b] x' m') : sX2_next x (fun v' x' => ∃ q, v' = [pI q] ∧ sX3_next m (fun w m' => K q w x' m')) :=
  ⟨_, rfl, h.2.1.five, kk _ _ _ _ (h.ask (qx_next h.1) (qn_next h.2.1))⟩
theorem st_ahead {p : Int} (hp : xB p) (h : lwR x m) (kk : ∀ q b x' m', lwR x' m' → K q [pI b] x' m') : sX2_ahead p x (fun v' x' => ∃ q, v' = [pI q] ∧ sX3_ahead p m (fun w m' => K q w x' m')) :=
  ⟨hp, _, rfl, ⟨hp, h.2.1.five⟩, kk _ _ _ _ (h.ask (qx_ahead h.1) (qn_ahead h.2.1))⟩
theorem st_count {a : Int} (ha : xB a) (h : lwR x m) (kk : ∀ q b x' m', lwR x' m' → K q [pI b] x' m') : sX2_count a x (fun v' x' => ∃ q, v' = [pI q] ∧ sX3_count a m (fun w m' => K q w x' m')) :=
  ⟨ha, _, rfl, ha, kk _ _ _ _ h.s0⟩
theorem st_batch {k : Int} (hk : xB k) (h : lwR x m) (kk : ∀ q b x' m', lwR x' m' → K q [pI b] x' m') : sX2_batch k x (fun v' x' => ∃ q, v' = [pI q] ∧ sX3_batch k m (fun w m' => K q w x' m')) :=
  ⟨⟨hk, h.1⟩, _, rfl, ⟨hk, h.2.1.six.2⟩, fun _ => kk _ _ _ _ (h.ask (qx_batch h.1) h.2.1.n0), fun _ => kk _ _ _ _ (h.ask (qx_batch h.1) (qn_batch h.2.1))⟩
theorem st_parts {k n : Int} (hk : xB k) (hn : xB n) (h : lwR x m) (kk : ∀ q b x' m', lwR x' m' → K q [pI b] x' m') : sX2_parts k n x (fun v' x' => ∃ q, v' = [pI q] ∧ sX3_parts k n m (fun w m' => K q w x' m')) :=
  ⟨⟨hk, hn, h.1⟩, _, rfl, ⟨⟨hk, hn⟩, h.2.1.six.2⟩, fun _ => kk _ _ _ _ (h.ask (qx_parts h.1) h.2.1.n0), fun _ => kk _ _ _ _ (h.ask (qx_parts h.1) (qn_parts h.2.1))⟩
theorem st_would {k t v r : Int} (hk : xB k) (ht : xB t) (hv : xB v) (hr : xB r) (h : lwR x m) (kk : ∀ q x' m', lwR x' m' → K q [pI q] x' m') : sX2_would k t v r x (fun v' x' => ∃ q, v' = [pI q] ∧ sX3_would k t v r m (fun w m' => K q w x' m')) := by
  have ev := lEv_iff h.w0 k t v r
  refine ⟨⟨hk, ht, hv, hr, h.1⟩, _, rfl, ⟨⟨hk, ht, hv, hr⟩, h.2.1.mok⟩, 650, fun c => ?_, fun c => ?_⟩
  · have e : fWould x k t v r = (-1, x) := if_neg (fun z => c (ev.mp z))
    rw [e]
    exact kk _ _ _ h.s0
  · have qx := qx_would (k := k) (t := t) (v := v) (r := r) h.1
    have e : (fWould x k t v r).1 = hw1 (gD 0 m) t := by
      have e1 : fWould x k t v r = (wFate ((setW x 1 (wCopy (x.2.2 1) (x.2.2 0))).2.2 1) t, lTell2 (setW (setW x 1 (wCopy (x.2.2 1) (x.2.2 0))) 1 (wPlayE ((setW x 1 (wCopy (x.2.2 1) (x.2.2 0))).2.2 1) k t v r)) (if wFate ((setW x 1 (wCopy (x.2.2 1) (x.2.2 0))).2.2 1) t = 2 then 0 else wMany (x.2.2 0) (wFirst (x.2.2 0) k t) k t) (wI ((wPlayE ((setW x 1 (wCopy (x.2.2 1) (x.2.2 0))).2.2 1) k t v r).1 4 - (x.2.2 0).1 4))) := if_pos (ev.mpr c)
      rw [e1]
      exact (rA.copy (a := x.2.2 1) h.w0).1.fate t
    have hz := h.2.1.mok
    have c4 : 0 ≤ r ∧ r < mg m 0 := c.2.2.2
    have h6 := h.2.1.six
    have q0 := h.2.1.n0 (v := 0)
    have w6 : mg (gWoS m) (4 * 2804 + 6) = 0 := mg_eq
    have wc : ∀ c : Int, 0 ≤ c → c < 2804 → c ≠ 6 → mg (gWoS m) (4 * 2804 + c) = mg m (0 * 2804 + c) := fun c c0 c1 c2 => by
      unfold gWoS
      rw [mg_ne (by decide) (by omega) (by omega), copy_at (by decide) (by decide) c0 c1]
      rfl
    have o : oD 4 (mS m 0 0) (gWoS m) := by
      have o1 : oD 4 (mS m 0 0) (mCopy (mS m 0 0) 0 4) := copy_o (by decide)
      exact o1.trans ⟨fun x x0 hx => mg_ne (by decide) x0 (by omega), cF_P.s⟩
    have V : dV 4 (mg m (0 * 2804 + 6)) (2700 * mg m (0 * 2804 + 6)) (gWoS m) := h.2.1.2.2.2.1.2.2.1.of h6.2 (fun c hc => wc c (by omega) (by omega) (by omega))
    refine ⟨by rw [w6]; decide, ?_⟩
    refine come_ok (j := 0) V ⟨by decide, by decide⟩ h6.2 (by omega) (by rw [wc 0 (by decide) (by decide) (by decide)]; exact h.2.1.zero.2) w6 (by decide) c.1 ⟨c4.1, by have := hz.2; omega⟩ (fun s' hc _ => ?_)
    have o2 : oD 4 (gWoS m) s' := ⟨fun x x0 hx => by
      have := hc.1 (x - 4 * 2804) (by omega) (by omega)
      rw [show 4 * 2804 + (x - 4 * 2804) = x by omega] at this
      exact this, hc.2.1⟩
    have eh : mHow (gWoS m) 4 t = hw1 (gD 0 m) t := by
      unfold mHow hw1 gD
      rw [wc 4 (by decide) (by decide) (by decide), wc 2 (by decide) (by decide) (by decide)]
    rw [eh, e]
    exact kk _ _ _ (h.ask qx (q0.trans (q0.1.1.n4 (o.trans o2))).e2)
theorem st_again {g l e : Int} (hg : xB g) (hl : xB l) (he : xB e) (h : lwR x m) (kk : ∀ q b x' m', lwR x' m' → K q [pI b] x' m') : sX2_again g l e x (fun v' x' => ∃ q, v' = [pI q] ∧ sX3_again g l e m (fun w m' => K q w x' m')) := by
  refine ⟨⟨hg, hl, he, h.1⟩, _, rfl, ⟨hg, hl, he⟩, fun _ => kk _ _ _ _ (h.ask (qx_again h.1) h.2.1.n0), fun _ => ⟨650, 160, ?_⟩⟩
  have q0 := h.2.1.n0 (v := 0)
  obtain ⟨a, b, c⟩ := startA_ok (g := g) (l := l) (e := e) q0.1.1
  have q1 := q0.1.1.n4 b
  refine agM_ok 160 0 _ q1.1.1.2.2.2.1 a (by decide) (by rw [c]; decide) (by have := q1.1.1.six; show mg _ (0 * 2804 + 6) ≤ 0 + 160; omega) (fun s' o => ?_)
  have q2 := q0.trans (q1.trans (q1.1.1.n4 o))
  refine kk _ _ _ _ (h.ask (qx_again h.1) ⟨q2.1.trans (q2.1.1.cong ?_ rfl rfl rfl rfl), q2.2.1, q2.2.2.1, q2.2.2.2⟩)
  exact ⟨by show (0 : Int) ≤ 0 + 1 + 1 + 1 + 1 + 1 + 1; decide, by show (0 : Int) + 1 + 1 + 1 + 1 + 1 + 1 ≤ 16; decide⟩
theorem st_latest (h : lwR x m) (kk : ∀ q b x' m', lwR x' m' → K q [pI b] x' m') : sX2_latest x (fun v' x' => ∃ q, v' = [pI q] ∧ sX3_latest m (fun w m' => K q w x' m')) := by
  refine ⟨_, rfl, 650, 160, ?_⟩
  have q0 := h.2.1.n0 (v := 0)
  unfold gLatS
  obtain ⟨a, b, c⟩ := startA_ok (g := mg m (0 * 2804 + 1)) (l := mg m (0 * 2804 + 2)) (e := mg m (0 * 2804 + 3)) q0.1.1
  have q1 := q0.1.1.n4 b
  refine la_ok 160 0 _ _ _ q1.1.1.2.2.2.1 a (by decide) (by rw [c]; decide) (by have := q1.1.1.six; show mg _ (0 * 2804 + 6) ≤ 0 + 160; omega) (fun u y s' o => ?_)
  exact kk _ _ _ _ (h.ask (qx_latest h.1) (q0.trans (q1.trans (q1.1.1.n4 o))).e1)
theorem st_without {r : Int} (hr : xB r) (h : lwR x m) (kk : ∀ q b x' m', lwR x' m' → K q [pI b] x' m') : sX2_without r x (fun v' x' => ∃ q, v' = [pI q] ∧ sX3_without r m (fun w m' => K q w x' m')) := by
  refine ⟨⟨hr, h.1⟩, _, rfl, ⟨hr, h.2.1.mok⟩, fun _ => kk _ _ _ _ (h.ask (qx_without h.1) h.2.1.n0), fun c => ⟨fun _ => kk _ _ _ _ (h.ask (qx_without h.1) h.2.1.n0), fun _ => ⟨650, 160, ?_⟩⟩⟩
  have hz := h.2.1.mok
  have c4 : 0 ≤ r ∧ r < mg m 0 := c
  have c5 : r ≤ 3 := by have := hz.2; omega
  have q0 := h.2.1.n0 (v := 0)
  unfold gWiS gLatS
  obtain ⟨a, b, c⟩ := startA_ok (g := mg m (0 * 2804 + 1)) (l := mg m (0 * 2804 + 2)) (e := mg m (0 * 2804 + 3)) q0.1.1
  generalize mStartA (mS m 0 0) (mg m (0 * 2804 + 1)) (mg m (0 * 2804 + 2)) (mg m (0 * 2804 + 3)) = u at a b c ⊢
  have o2 : oD 4 u (mP u (4 * 2804 + (20 + r)) 1) := ⟨fun x x0 hx => mg_ne (by omega) x0 (by omega), cF_P.s⟩
  have a2 : dI 4 (mP u (4 * 2804 + (20 + r)) 1) := a.of (fun c hc => mg_ne (by omega) (by omega) (by omega))
  have c2 : mg (mP u (4 * 2804 + (20 + r)) 1) (4 * 2804 + 6) = 0 := (mg_ne (by omega) (by decide) (by omega)).trans c
  have q1 := q0.1.1.n4 (b.trans o2)
  refine wo_ok 160 0 _ q1.1.1.2.2.2.1 a2 (by decide) (by rw [c2]; decide) (by have := q1.1.1.six; show mg _ (0 * 2804 + 6) ≤ 0 + 160; omega) (fun s' o => ?_)
  exact kk _ _ _ _ (h.ask (qx_without h.1) (q0.trans (q1.trans (q1.1.1.n4 o))).e3)
theorem qdn {m' : MS} (h : Inv m) (o : qD m m') : Qn m m' := ⟨h.qD o, o.2.2.2.1, o.2.2.2.2.2, fun y y0 hy => o.1 y y0 (by omega)⟩
theorem st_years {d c : Int} (hd : xB d) (hc : xB c) (h : lwR x m) (kk : ∀ q b x' m', lwR x' m' → K q [pI b] x' m') : sX2_years d c x (fun v' x' => ∃ q, v' = [pI q] ∧ sX3_years d c m (fun w m' => K q w x' m')) := by
  refine ⟨⟨hd, hc, h.1⟩, _, rfl, ⟨hd, hc⟩, fun _ => kk _ _ _ _ (h.ask (qx_years h.1) h.2.1.n0), fun hb => ⟨650, 40, ?_⟩⟩
  have hb2 : c ≤ 40 := hb.2
  have q1 : qD m (gYrS m d) := qD.trans (t := mS (mS m 0 0) 21 d) ⟨fun _ _ _ => rfl, rfl, rfl, rfl, rfl, rfl⟩ (copy_o (f := 0) (t := 4) (by decide)).q
  have d4 : dI 4 (gYrS m d) := dI.copy (s := mS (mS m 0 0) 21 d) (h.2.1.2.2.2.1.cong rfl) (by decide) (by decide)
  exact yr_ok 40 0 0 _ d4 (by omega) (fun a s' q2 => kk _ _ _ _ (h.ask (qx_years h.1) (qdn h.2.1 (q1.trans q2)).e2))
end QS
section QT
variable {x : LSt} {m : MS} {K0 K1 : PS → MS → Prop}
theorem st_source {r a : Int} (hr : xB r) (ha : xB a) (h : lwR x m) (k0 : ∀ m', m'.1 0 = 0 → lwR x m' → K0 [pI (fSource x r a)] m') (k1 : ∀ b m', m'.1 0 = 1 → lwR x m' → K1 [pI b] m') : (lSrc x r ∧ 0 ≤ a ∧ a ≤ 5 → sX3_source r a m K0) ∧ (¬ (lSrc x r ∧ 0 ≤ a ∧ a ≤ 5) → sX3_source r a m K1) := by
  have ev := lSrc_iff h.w0 r
  refine ⟨fun c => ⟨⟨⟨hr, ha⟩, h.2.1.mok⟩, ?_⟩, fun c => ⟨⟨⟨hr, ha⟩, h.2.1.mok⟩, ?_⟩⟩
  · have cm := ev.mp c.1
    have e : gSource m r a = (gSrcA m r a, mS m 0 0) := if_pos ⟨cm, c.2⟩
    have e2 : gSrcA m r a = fSource x r a := by
      have s0 := src_eq h.w0 (q := 0) (c := 0 * 2804 + (12 + r)) cm (by decide) (by omega)
      have s1 := src_eq h.w0 (q := 1) (c := 0 * 2804 + (16 + r)) cm (by decide) (by omega)
      have s2 := src_eq h.w0 (q := 2) (c := 0 * 2804 + (20 + r)) cm (by decide) (by omega)
      have s3 := src_eq h.w0 (q := 3) (c := 0 * 2804 + (24 + r)) cm (by decide) (by omega)
      have s4 := src_eq h.w0 (q := 4) (c := 0 * 2804 + (28 + r)) cm (by decide) (by omega)
      have p : (x.2.2 0).1 3 = mg m (0 * 2804 + 4) := h.w0.1.1.2.2.2
      unfold gSrcA fSource
      have ca := c.2
      by_cases c5 : a = 5
      · subst c5
        rw [if_neg (by decide), if_neg (by decide), if_neg (by decide), if_neg (by decide), if_neg (by decide), if_neg (show ¬ (5 : Int) < 5 by decide), s0, p]
      · rw [if_pos (show a < 5 by omega)]
        have : a = 0 ∨ a = 1 ∨ a = 2 ∨ a = 3 ∨ a = 4 := by omega
        rcases this with rfl | rfl | rfl | rfl | rfl
        · rw [if_pos rfl, s0]
        · rw [if_neg (by decide), if_pos rfl, s1]
        · rw [if_neg (by decide), if_neg (by decide), if_pos rfl, s2]
        · rw [if_neg (by decide), if_neg (by decide), if_neg (by decide), if_pos rfl, s3]
        · rw [if_neg (by decide), if_neg (by decide), if_neg (by decide), if_neg (by decide), if_pos rfl, s4]
    rw [e, e2]
    exact k0 _ rfl h.s0
  · have e : gSource m r a = (0, mS m 0 1) := if_neg (fun z => c ⟨ev.mpr z.1, z.2⟩)
    rw [e]
    exact k1 _ _ rfl h.s0
theorem st_input {r a : Int} (hr : xB r) (ha : xB a) (h : lwR x m) (k0 : ∀ m', m'.1 0 = 0 → lwR x m' → K0 [pI (fInput x r a)] m') (k1 : ∀ b m', m'.1 0 = 1 → lwR x m' → K1 [pI b] m') : ((0 ≤ r ∧ r < wZ (x.2.2 0) 4) ∧ 0 ≤ a ∧ a ≤ 3 → sX3_input r a m K0) ∧ (¬ ((0 ≤ r ∧ r < wZ (x.2.2 0) 4) ∧ 0 ≤ a ∧ a ≤ 3) → sX3_input r a m K1) := by
  obtain ⟨z6, z60, z61⟩ := z6_eq h.w0
  have q6 : mg m (0 * 2804 + 6) = mg m 6 := rfl
  have ew : wI (mg m (0 * 2804 + 6) - 1) = mg m 6 - 1 := by rw [q6, wI_id ⟨by omega, by omega⟩]
  refine ⟨fun c => ⟨⟨⟨hr, ha⟩, h.2.1.six⟩, ?_⟩, fun c => ⟨⟨⟨hr, ha⟩, h.2.1.six⟩, ?_⟩⟩
  · have e : gInput m r a = (mg m (1844 + 6 * r + a), mS m 0 0) := if_pos ⟨⟨c.1.1, by rw [ew]; have := c.1.2; omega⟩, c.2⟩
    have e2 : mg m (1844 + 6 * r + a) = fInput x r a := by
      have g := (h.w0.2.1.2 r c.1.1 (by rw [gD0]; have := c.1.2; omega)).1
      rw [gD0, gD0, gD0, gD0] at g
      unfold fInput
      have ca := c.2
      have : a = 0 ∨ a = 1 ∨ a = 2 ∨ a = 3 := by omega
      rcases this with rfl | rfl | rfl | rfl
      · exact g.1.symm
      · exact g.2.1.symm
      · exact g.2.2.1.symm
      · exact g.2.2.2.symm
    rw [e, e2]
    exact k0 _ rfl h.s0
  · have e : gInput m r a = (0, mS m 0 1) := if_neg (fun z => c ⟨⟨z.1.1, by have z2 := z.1.2; rw [ew] at z2; omega⟩, z.2⟩)
    rw [e]
    exact k1 _ _ rfl h.s0
theorem lwR.thr (h : lwR x m) {v : Int} : lwR x (mS m 0 v) := h.s0
theorem st_session {r a : Int} (hr : xB r) (ha : xB a) (h : lwR x m) (k0 : ∀ b m', lwR x m' → K0 [pI b] m') : sX3_session r a m K0 := ⟨⟨⟨hr, ha⟩, h.2.1.five⟩, k0 _ _ (h.ask (Qx.self h.1) (qn_session h.2.1))⟩
theorem st_message {r a : Int} (hr : xB r) (ha : xB a) (h : lwR x m) (k0 : ∀ b m', lwR x m' → K0 [pI b] m') : sX3_message r a m K0 := ⟨⟨hr, ha⟩, k0 _ _ (h.ask (Qx.self h.1) (qn_message h.2.1))⟩
theorem st_finals {r a : Int} (hr : xB r) (ha : xB a) (h : lwR x m) (k0 : ∀ b m', lwR x m' → K0 [pI b] m') : sX3_finals r a m K0 := ⟨⟨hr, ha⟩, k0 _ _ (h.ask (Qx.self h.1) (qn_finals h.2.1))⟩
theorem st_row {r : Int} (hr : xB r) (h : lwR x m) (k0 : ∀ b m', lwR x m' → K0 [pJ b] m') : sX3_row r m K0 := ⟨⟨hr, h.2.1.2.2.1⟩, k0 _ _ (h.ask (Qx.self h.1) (qn_row h.2.1))⟩
end QT
/-! ===== the fresh states ===== -/
theorem inv1 : Inv m1 := by
  obtain ⟨a, b, c⟩ := starts_ok (s := m0) (d := 0) (n := 1) (g := 10) (l := 5) (e := 0) (by decide) (by decide)
  have e := b.2
  refine ⟨?_, ?_, ?_, a, fun i _ _ hi => ?_, fun k k0 k1 => ?_⟩
  · rw [show m1.1 4 = 0 from e.1 4 (by decide) (by decide) (by decide)]; decide
  · rw [show m1.1 8 = 0 from e.1 8 (by decide) (by decide) (by decide)]; decide
  · rw [show m1.1 1 = 0 from e.1 1 (by decide) (by decide) (by decide)]; decide
  · rw [show m1.2 12 = fun _ => 0 from e.2 12 (by decide) (by decide)] at hi
    exact absurd rfl hi
  · rw [show m1.1 8 = 0 from e.1 8 (by decide) (by decide) (by decide)] at k1
    omega
theorem w1_okR : wok w1 := by decide +kernel
theorem lok1R : lok s1 := ⟨⟨⟨by decide, by decide⟩, by decide, by decide⟩, ⟨by decide, by decide⟩, ⟨by decide, by decide⟩, fun _ _ => w1_okR⟩
theorem lwR1 : lwR s1 m1 := by
  obtain ⟨-, b, -⟩ := starts_ok (s := m0) (d := 0) (n := 1) (g := 10) (l := 5) (e := 0) (by decide) (by decide)
  have e12 : m1.2 12 = fun _ => 0 := b.2.2 12 (by decide) (by decide)
  have e4 : m1.1 4 = 0 := b.2.1 4 (by decide) (by decide) (by decide)
  have e8 : m1.1 8 = 0 := b.2.1 8 (by decide) (by decide) (by decide)
  refine ⟨lok1R, inv1, ⟨by rw [e4]; rfl, fun j j0 j1 => absurd j1 (by rw [e4]; omega)⟩, ?_, ⟨by rw [e8]; rfl, fun k k0 k1 => absurd k1 (by rw [e8]; omega)⟩, fun i _ _ hi => absurd hi (by rw [e12]; exact fun z => z rfl), ?_⟩
  · unfold kfR
    rw [e12]
    exact ⟨Or.inl rfl, Or.inl rfl, rfl⟩
  · have r : rA (wReset wraw 1 10 5 0) (st0 1 10 5 0) := rA.reset (by decide) (by decide)
    exact r.cong (fun c c0 c1 hc => startsA (by decide) c c0 c1 hc)
end
