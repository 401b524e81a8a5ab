/-! ===== questions: what they leave alone ===== -/
section QX
variable {x : LSt}
theorem qx_W {w : WS} (h : lok x) (hw : wok w) : Qx x (setW x 1 w) := by
  refine ⟨(ql_W h hw).1, ⟨rfl, rfl, rfl, rfl⟩, rfl, fun q hq => ?_⟩
  show (bif Nat.beq q 1 then w else x.2.2 q) = _
  rw [bqF hq]; rfl
theorem qx_A2 {g : Nat → Int} (h : lok x) : Qx x (setA x 2 g) := ⟨h, ⟨rfl, rfl, rfl, rfl⟩, rfl, fun _ _ => rfl⟩
theorem qx_A3 {g : Nat → Int} (h : lok x) : Qx x (setA x 3 g) := ⟨h, ⟨rfl, rfl, rfl, rfl⟩, rfl, fun _ _ => rfl⟩
theorem qx_0 (h : lok x) : Qx x (setS x 3 0) := ⟨(ql_0 h).1, ⟨rfl, rfl, rfl, rfl⟩, rfl, fun _ _ => rfl⟩
theorem qx_T {v : Int} (h : lok x) : Qx x (lTell x v) := by
  refine ⟨(ql_T h).1, ?_⟩
  unfold lTell
  split
  · exact ⟨⟨rfl, rfl, rfl, rfl⟩, rfl, fun _ _ => rfl⟩
  · exact ⟨⟨rfl, rfl, rfl, rfl⟩, rfl, fun _ _ => rfl⟩
theorem qx_1 {a : Int} (h : lok x) : Qx x (lTell1 x a) := (qx_0 h).trans (qx_T (qx_0 h).1)
theorem qx_2 {a b : Int} (h : lok x) : Qx x (lTell2 x a b) := (qx_1 h).trans (qx_T (qx_1 h).1)
theorem qx_3 {a b c : Int} (h : lok x) : Qx x (lTell3 x a b c) := (qx_2 h).trans (qx_T (qx_2 h).1)
theorem qx_at {k t : Int} (h : lok x) : Qx x (fAt x k t).2 := by
  unfold fAt
  split
  · split
    · exact Qx.self h
    · exact qx_1 h
  · exact Qx.self h
theorem qx_sent {k : Int} (h : lok x) : Qx x (fSent x k).2 := by
  unfold fSent
  split
  · exact qx_1 h
  · exact Qx.self h
theorem qx_closed {k : Int} (h : lok x) : Qx x (fClosed x k).2 := by
  unfold fClosed
  split
  · exact qx_3 h
  · exact Qx.self h
theorem qx_taken (h : lok x) : Qx x (fTaken x).2 := qx_3 h
theorem qx_would {k t v r : Int} (h : lok x) : Qx x (fWould x k t v r).2 := by
  unfold fWould
  split
  · have q := qx_W h (wok_Copy (h.2.2.2 1 (by decide)) (h.2.2.2 0 (by decide)))
    have q2 := q.trans (qx_W q.1 (wok_PlayE (k := k) (t := t) (v := v) (r := r) (q.1.2.2.2 1 (by decide))))
    exact q2.trans (qx_2 q2.1)
  · exact Qx.self h
theorem qx_rd (n : Int) : ∀ (m : Nat) (i : Int) (x : LSt), lok x → Qx x (rdL n m i x)
  | 0, _, _, h => Qx.self h
  | m + 1, i, x, h => by
    rw [rdL]
    have q := qx_W h (wok_P (t := 0) (i := i) (c := 1) (v := wG (x.2.2 0) 0 i 1) (by decide) (h.2.2.2 1 (by decide)))
    exact q.trans (qx_rd n m (i + 1) _ q.1)
theorem qx_rp (lo : Int) : ∀ (m : Nat) (i : Int) (x : LSt), lok x → Qx x (rpL lo m i x)
  | 0, _, _, h => Qx.self h
  | m + 1, i, x, h => by
    rw [rpL]
    split
    · exact qx_rp lo m (i + 1) x h
    · have q := qx_W h (wok_PlayN (g := ((x.2.2 0).2 4).2) (i := i) (h.2.2.2 1 (by decide)))
      exact q.trans (qx_rp lo m (i + 1) _ q.1)
theorem qx_Replay {g l e lo : Int} (h : lok x) : Qx x (lReplay x g l e lo) := by
  unfold lReplay lRep2
  dsimp only
  have q1 := qx_W h (wok_Reset (n := wZ (x.2.2 0) 0) (g := g) (l := l) (e := e) (h.2.2.2 1 (by decide)))
  have q2 := q1.trans (qx_rd (wZ (x.2.2 0) 0) (wZ (x.2.2 0) 0).toNat 0 _ q1.1)
  generalize rdL (wZ (x.2.2 0) 0) (wZ (x.2.2 0) 0).toNat 0 (setW x 1 (wReset (x.2.2 1) (wZ (x.2.2 0) 0) g l e)) = u at q2 ⊢
  split
  · have q3 := q2.trans (qx_W q2.1 (wok_P (t := 0) (i := lo) (c := 2) (v := 1) (by decide) (q2.1.2.2.2 1 (by decide))))
    exact q3.trans (qx_rp lo _ 0 _ q3.1)
  · exact q2.trans (qx_rp lo _ 0 _ q2.1)
theorem qx_without {r : Int} (h : lok x) : Qx x (fWithout x r).2 := by
  unfold fWithout
  split
  · split
    · exact Qx.self h
    · have q := qx_Replay (g := (x.2.2 0).1 0) (l := (x.2.2 0).1 1) (e := (x.2.2 0).1 2) (lo := r) h
      exact q.trans (qx_3 q.1)
  · exact Qx.self h
theorem qx_ag2 : ∀ (m : Nat) (k : Int) (x : LSt), lok x → Qx x (agL2 m k x)
  | 0, _, _, h => Qx.self h
  | m + 1, k, x, h => by
    rw [agL2]
    exact (qx_T h).trans (qx_ag2 m (k + 1) _ (qx_T h).1)
theorem qx_again {g l e : Int} (h : lok x) : Qx x (fAgain x g l e).2 := by
  unfold fAgain
  split
  · have q := qx_Replay (g := g) (l := l) (e := e) (lo := -1) h
    have q2 := q.trans (qx_0 q.1)
    have q3 := q2.trans (qx_ag2 4 0 _ q2.1)
    have q4 := q3.trans (qx_T (v := wZ ((lReplay x g l e (-1)).2.2 1) 1) q3.1)
    exact q4.trans (qx_T q4.1)
  · exact Qx.self h
theorem qx_stands (h : lok x) : Qx x (fStands x).2 := qx_2 h
theorem qx_kn (k : Int) : ∀ (m : Nat) (i t : Int) (x : LSt), lok x → Qx x (knL k m i t x).2
  | 0, _, _, _, h => Qx.self h
  | m + 1, i, t, x, h => by
    rw [knL]
    exact (qx_T h).trans (qx_kn k m (i + 1) _ _ (qx_T h).1)
theorem qx_kinds {k : Int} (h : lok x) : Qx x (fKinds x k).2 := by
  unfold fKinds
  split
  · have q := (qx_0 h).trans (qx_kn k 4 0 0 _ (qx_0 h).1)
    exact q.trans (qx_T q.1)
  · exact Qx.self h
theorem qx_slow (h : lok x) : Qx x (fSlow x).2 := by
  unfold fSlow fSlow2
  split
  · exact Qx.self h
  · exact qx_2 h
theorem qx_holds (h : lok x) : Qx x (fHolds x).2 := qx_2 h
theorem qx_next (h : lok x) : Qx x (fNext x).2 := by
  unfold fNext fNext2
  split
  · exact Qx.self h
  · exact qx_1 h
theorem qx_ahead {p : Int} (h : lok x) : Qx x (fAhead x p).2 := by
  unfold fAhead
  split
  · split
    · exact Qx.self h
    · exact qx_1 h
  · exact Qx.self h
theorem qx_latest (h : lok x) : Qx x (fLatest x).2 := qx_1 h
theorem qx_span {f t : Int} (h : lok x) : Qx x (fSpan x f t).2 := by
  unfold fSpan
  split
  · exact qx_3 h
  · exact Qx.self h
theorem qx_ins (t i : Int) : ∀ (p : Nat) (x : LSt), lok x → Qx x (insL t i p x)
  | 0, x, h => qx_A2 h
  | p + 1, x, h => by
    rw [insL]
    split
    · exact (qx_A2 h).trans (qx_ins t i p _ (qx_A2 h).1)
    · exact qx_A2 h
theorem qx_srt (k : Int) : ∀ (m : Nat) (i : Int) (n : Nat) (x : LSt), lok x → Qx x (srtL k m i n x).2
  | 0, _, _, _, h => Qx.self h
  | m + 1, i, n, x, h => by
    rw [srtL]
    split
    · have q := qx_ins (wG (x.2.2 0) 4 i 2) i n x h
      exact q.trans (qx_srt k m (i + 1) (n + 1) _ q.1)
    · exact qx_srt k m (i + 1) n x h
theorem qx_Sort {k : Int} (h : lok x) : Qx x (lSort x k).2 := qx_srt k _ 0 0 x h
theorem qx_batch {k : Int} (h : lok x) : Qx x (fBatch x k).2 := by
  unfold fBatch
  split
  · exact (qx_Sort h).trans (qx_3 (qx_Sort h).1)
  · exact Qx.self h
theorem qx_yr (r : Int) : ∀ (m : Nat) (d : Int) (x : LSt), lok x → Qx x (yrL r m d x)
  | 0, _, _, h => Qx.self h
  | m + 1, d, x, h => by
    rw [yrL]
    have q := qx_W h (wok_PlayE (k := dOf (dAfter d) 6) (t := max 0 (min 9999 (wI (wI ((x.2.2 1).1 3 - (x.2.2 1).1 1) + dOf (dAfter (dAfter d)) 100)))) (v := wI (dOf (dAfter (dAfter (dAfter d))) 199 - 99)) (r := dOf (dAfter (dAfter (dAfter (dAfter d)))) r) (h.2.2.2 1 (by decide)))
    exact q.trans (qx_yr r m _ _ q.1)
theorem qx_years {d n : Int} (h : lok x) : Qx x (fYears x d n).2 := by
  unfold fYears
  split
  · have q := qx_W h (wok_Copy (h.2.2.2 1 (by decide)) (h.2.2.2 0 (by decide)))
    have q2 := q.trans (qx_yr (max 1 (wZ (x.2.2 0) 0)) (min n (wI (160 - wZ (x.2.2 0) 4))).toNat d _ q.1)
    exact q2.trans (qx_2 q2.1)
  · exact Qx.self h
theorem qx_pt (n : Int) : ∀ (m : Nat) (k : Int) (x : LSt), lok x → Qx x (ptL n m k x)
  | 0, _, _, h => Qx.self h
  | m + 1, k, x, h => by
    rw [ptL]
    split
    · exact (qx_A3 h).trans (qx_pt n m (k + 1) _ (qx_A3 h).1)
    · exact qx_pt n m (k + 1) x h
theorem qx_parts {k n : Int} (h : lok x) : Qx x (fParts x k n).2 := by
  unfold fParts
  split
  · split
    · exact qx_Sort h
    · have q := (qx_Sort (k := k) h).trans (qx_A3 (g := fun j => if j < 101 then 0 else (lSort x k).2.2.1 3 j) (qx_Sort (k := k) h).1)
      exact q.trans (qx_pt _ _ 0 _ q.1)
  · exact Qx.self h
end QX
section QN
variable {m : MS}
theorem Inv.n0 (h : Inv m) {v : Int} : Qn m (mS m 0 v) := ⟨h.s0, rfl, rfl, fun _ _ _ => rfl⟩
theorem Qn.e1 {m' : MS} (q : Qn m m') {a : Int} : Qn m (mEn (mS m' 1 0) a) := ⟨en1 q.1, q.2.1, q.2.2.1, fun y y0 hy => q.2.2.2 y y0 hy⟩
theorem Qn.e2 {m' : MS} (q : Qn m m') {a b : Int} : Qn m (mEn (mEn (mS m' 1 0) a) b) := ⟨en2 q.1, q.2.1, q.2.2.1, fun y y0 hy => q.2.2.2 y y0 hy⟩
theorem Qn.e3 {m' : MS} (q : Qn m m') {a b c : Int} : Qn m (mEn (mEn (mEn (mS m' 1 0) a) b) c) := ⟨en3 q.1, q.2.1, q.2.2.1, fun y y0 hy => q.2.2.2 y y0 hy⟩
theorem qn_source {r a : Int} (h : Inv m) : Qn m (gSource m r a).2 := by
  unfold gSource
  split <;> exact h.n0
theorem qn_session {r a : Int} (h : Inv m) : Qn m (gSession m r a).2 := by
  unfold gSession
  split <;> exact h.n0
theorem qn_message {r a : Int} (h : Inv m) : Qn m (gMessage m r a).2 := by
  unfold gMessage
  split <;> exact h.n0
theorem qn_finals {r a : Int} (h : Inv m) : Qn m (gFinals m r a).2 := by
  unfold gFinals
  split <;> exact h.n0
theorem qn_input {r a : Int} (h : Inv m) : Qn m (gInput m r a).2 := by
  unfold gInput
  split <;> exact h.n0
theorem qn_row {r : Int} (h : Inv m) : Qn m (gRow m r).2 := by
  unfold gRow
  split <;> exact h.n0
theorem qn_taken (h : Inv m) : Qn m (gTaken m).2 := h.n0.e3
theorem qn_sent {k : Int} (h : Inv m) : Qn m (gSent m k).2 := by
  unfold gSent
  split
  · exact h.n0.e1
  · exact h.n0
theorem qn_closed {k : Int} (h : Inv m) : Qn m (gClosed m k).2 := by
  unfold gClosed
  split
  · exact h.n0.e3
  · exact h.n0
theorem qn_at {k t : Int} (h : Inv m) : Qn m (gAt m k t).2 := by
  unfold gAt
  split
  · unfold gAt2
    split
    · exact h.n0
    · exact h.n0.e1
  · exact h.n0
theorem qn_stands (h : Inv m) : Qn m (gStands m).2 := h.n0.e2
theorem qn_kinds {k : Int} (h : Inv m) : Qn m (gKinds m k).2 := by
  unfold gKinds
  split
  · exact ⟨h.s0.trans (h.s0.1.cong ⟨by show (0 : Int) ≤ 0 + 1 + 1 + 1 + 1 + 1; decide, by show (0 : Int) + 1 + 1 + 1 + 1 + 1 ≤ 16; decide⟩ rfl rfl rfl rfl), rfl, rfl, fun _ _ _ => rfl⟩
  · exact h.n0
theorem qn_holds (h : Inv m) : Qn m (gHolds m).2 := h.n0.e2
theorem qn_next (h : Inv m) : Qn m (gNext m).2 := by
  unfold gNext gNext0 gNx2
  split
  · exact h.n0
  · exact h.n0.e1
theorem qn_ahead {p : Int} (h : Inv m) : Qn m (gAhead m p).2 := by
  unfold gAhead gAhead0
  split
  · split
    · exact h.n0
    · exact h.n0.e1
  · exact h.n0
/-- idle ones tried and put back -/
theorem slM_same : ∀ (n : Nat) (r b q : Int) (s : MS), 0 ≤ r → r + n ≤ 4 → (∀ j : Int, 0 ≤ j → j < 4 → mg s (20 + j) = 0 ∨ mg s (20 + j) = 1) → ∀ y : Int, 0 ≤ y → mg (slM n r b q s).2.2 y = mg s y
  | 0, _, _, _, _, _, _, _, _, _ => rfl
  | n + 1, r, b, q, s, h0, h1, hi, y, y0 => by
    rw [slM]
    by_cases c : mg s (0 * 2804 + (20 + r)) = 1
    · rw [if_pos c]
      exact slM_same n (r + 1) b q s (by omega) (by omega) hi y y0
    · rw [if_neg c]
      have e : ∀ y : Int, 0 ≤ y → mg (slS s r) y = mg s y := fun y y0 => by
        unfold slS
        by_cases c2 : y = 0 * 2804 + (20 + r)
        · subst c2
          have := hi r h0 (by omega)
          rw [show 20 + r = 0 * 2804 + (20 + r) by omega] at this
          rw [mg_eq, this.resolve_right c]
        · rw [mg_ne (by omega) y0 (fun z => c2 z.symm), mg_ne (by omega) y0 (fun z => c2 z.symm)]
      have hi2 : ∀ j : Int, 0 ≤ j → j < 4 → mg (slS s r) (20 + j) = 0 ∨ mg (slS s r) (20 + j) = 1 := fun j j0 j1 => by
        rw [e _ (by omega)]
        exact hi j j0 j1
      split
      · rw [slM_same n (r + 1) r _ (slS s r) (by omega) (by omega) hi2 y y0, e y y0]
      · rw [slM_same n (r + 1) b q (slS s r) (by omega) (by omega) hi2 y y0, e y y0]
theorem qn_slow (h : Inv m) (hi : ∀ j : Int, 0 ≤ j → j < 4 → mg m (20 + j) = 0 ∨ mg m (20 + j) = 1) : Qn m (gSlow m).2 := by
  have hz := h.mok
  have hq : mg m (0 * 2804 + 0) = mg m 0 := rfl
  have g := slM_ok (mg m (0 * 2804 + 0)).toNat 0 (-1) 0 (mS m 0 0) (by decide) (by have := hz.2; omega)
  have g2 := slM_same (mg m (0 * 2804 + 0)).toNat 0 (-1) 0 (mS m 0 0) (by decide) (by have := hz.2; omega) hi
  unfold gSlow
  generalize slM (mg m (0 * 2804 + 0)).toNat 0 (-1) 0 (mS m 0 0) = p at g g2 ⊢
  have q : Qi m p.2.2 := h.s0.trans (h.s0.1.on0 (h.s0.1.2.2.2.1.of (fun c hc => g.2 _ (by omega) (by omega))) ⟨fun x x0 hx => g.2 x x0 (by omega), g.1.s⟩)
  have n : Qn m p.2.2 := ⟨q, by rw [g.1.1]; rfl, by rw [g.1.2 2 (by decide)]; rfl, fun y y0 _ => g2 y y0⟩
  unfold gSl2
  split
  · exact n
  · exact n.e2
theorem qn_span {f t : Int} (h : Inv m) : Qn m (gSpO (mS m 0 0) f t 6 0 0 0 (-1) 0).2 := by
  obtain ⟨x, y, w, e⟩ := gSpO_ok f t (mS m 0 0) 6 0 0 0 (-1) 0
  rw [e]
  exact h.n0.e3
theorem Qn.lt {m' u : MS} (q : Qn m m') (t : tF m' u) : Qn m u :=
  ⟨q.1.trans (q.1.1.lt t), (t.1 8 (by decide)).trans q.2.1, (t.2 2 (by decide) (by decide)).trans q.2.2.1, fun y y0 hy => (mg_cong (t.2 3 (by decide) (by decide)) y).trans (q.2.2.2 y y0 hy)⟩
theorem qn_parts {k : Int} (h : Inv m) : Qn m (gLt (mS m 0 0) k) := h.n0.lt (gLt_f _ _)
theorem baN_e (g : Int) : ∀ (n : Nat) (k mc ms ho co su an : Int) (s : MS), ∃ a b c, (baN s g n k mc ms ho co su an).2 = mEn (mEn (mEn (mS s 1 0) a) b) c
  | 0, _, _, _, _, _, _, _, _ => ⟨_, _, _, rfl⟩
  | n + 1, k, mc, ms, ho, co, su, an, s => by
    rw [baN]
    split
    · exact ⟨_, _, _, rfl⟩
    · exact baN_e g n _ _ _ _ _ _ _ s
theorem qn_batch {k : Int} (h : Inv m) : Qn m (gBa (gLt (mS m 0 0) k)).2 := by
  have q := qn_parts (k := k) h
  generalize gLt (mS m 0 0) k = u at q
  obtain ⟨a, b, c, e⟩ := baN_e (mg u (0 * 2804 + 1)) 160 0 (-1) (-1) (-1) 0 0 0 u
  unfold gBa
  rw [e]
  exact q.e3
theorem Inv.n4 {m' : MS} (h : Inv m) (o : oD 4 m m') : Qn m m' := ⟨h.on4 o, o.2.1 8 (by decide) (by decide) (by decide), o.2.2 2 (by decide) (by decide), fun y y0 hy => o.1 y y0 (by omega)⟩
end QN
