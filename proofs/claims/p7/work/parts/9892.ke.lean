/-! ===== each method of the class keeps its sizes ===== -/
def Ql (x x' : LSt) : Prop := lok x' ∧ x'.1 4 = x.1 4 ∧ x'.1 2 = x.1 2
theorem Ql.trans {x y w : LSt} (h : Ql x y) (g : Ql y w) : Ql x w := ⟨g.1, g.2.1.trans h.2.1, g.2.2.trans h.2.2⟩
section FX
variable {x : LSt} {K : KL}
theorem Ql.self (h : lok x) : Ql x x := ⟨h, rfl, rfl⟩
theorem ql_W {q : Nat} {w : WS} (h : lok x) (hw : wok w) : Ql x (setW x q w) := by
  refine ⟨⟨h.1, h.2.1, h.2.2.1, fun j hj => ?_⟩, rfl, rfl⟩
  show wok (bif Nat.beq j q then w else x.2.2 j)
  cases Nat.beq j q
  · exact h.2.2.2 j hj
  · exact hw
theorem ql_A {a : Nat} {g : Nat → Int} (h : lok x) : Ql x (setA x a g) := ⟨h, rfl, rfl⟩
theorem ql_0 (h : lok x) : Ql x (setS x 3 0) := ⟨⟨h.1, ⟨by show (0 : Int) ≤ 0; decide, by show (0 : Int) ≤ 6; decide⟩, h.2.2.1, h.2.2.2⟩, rfl, rfl⟩
theorem ql_T {v : Int} (h : lok x) : Ql x (lTell x v) := by
  unfold lTell
  split
  · rename_i c
    have h3 := h.2.1
    exact ⟨⟨h.1, ⟨by show 0 ≤ x.1 3 + 1; omega, by show x.1 3 + 1 ≤ 6; omega⟩, h.2.2.1, h.2.2.2⟩, rfl, rfl⟩
  · exact Ql.self h
theorem ql_1 {a : Int} (h : lok x) : Ql x (lTell1 x a) := (ql_0 h).trans (ql_T (ql_0 h).1)
theorem ql_2 {a b : Int} (h : lok x) : Ql x (lTell2 x a b) := (ql_1 h).trans (ql_T (ql_1 h).1)
theorem ql_3 {a b c : Int} (h : lok x) : Ql x (lTell3 x a b c) := (ql_2 h).trans (ql_T (ql_2 h).1)
theorem ql_Rem (h : lok x) : Ql x (lRem x) := by
  have hu := h.1
  unfold lRem
  dsimp only
  have hj : 2 + (Int.tmod (x.1 0 + x.1 1) 6).toNat < 10 := by
    have := Int.tmod_lt_of_pos (x.1 0 + x.1 1) (b := 6) (by decide)
    omega
  have q := ql_W (q := 2 + (Int.tmod (x.1 0 + x.1 1) 6).toNat) h (wok_Copy (h.2.2.2 _ hj) (h.2.2.2 0 (by decide)))
  generalize setW x (2 + (Int.tmod (x.1 0 + x.1 1) 6).toNat) (wCopy (x.2.2 (2 + (Int.tmod (x.1 0 + x.1 1) 6).toNat)) (x.2.2 0)) = u at q ⊢
  obtain ⟨q1, q2, q3⟩ := q
  split
  · exact ⟨⟨⟨q1.1.1, by show 0 ≤ x.1 1 + 1; omega, by show x.1 1 + 1 ≤ 6; omega⟩, q1.2⟩, q2, q3⟩
  · have t0 : 0 ≤ Int.tmod (x.1 0 + 1) 6 := Int.tmod_nonneg _ (by omega)
    have t1 : Int.tmod (x.1 0 + 1) 6 < 6 := Int.tmod_lt_of_pos _ (by decide)
    exact ⟨⟨⟨⟨t0, t1⟩, q1.1.2⟩, q1.2⟩, q2, q3⟩
theorem ix_end {n : Int} (hn : xB n) (h : lok x) (kk : ∀ x', lok x' → x'.1 4 = (if 0 ≤ n ∧ n ≤ x.1 4 then n else x.1 4) → x'.1 2 = x.1 2 → K [pI (fEnd x n).1] x') : sX2_end n x K := by
  refine ⟨hn, ?_⟩
  have h4 := h.2.2.1
  by_cases c : 0 ≤ n ∧ n ≤ x.1 4
  · have e : fEnd x n = (1, setS x 4 n) := if_pos c
    have k2 := kk (setS x 4 n) ⟨h.1, h.2.1, ⟨by show 0 ≤ n; omega, by show n ≤ 80; omega⟩, h.2.2.2⟩ (by rw [if_pos c]; rfl) rfl
    rw [e] at k2 ⊢
    exact k2
  · have e : fEnd x n = (0, x) := if_neg c
    have k2 := kk x h (by rw [if_neg c]) rfl
    rw [e] at k2 ⊢
    exact k2
theorem putS_ok {v : Int} (h : lok x) (h4 : x.1 4 < 80) : lok (lPutS x v) ∧ (lPutS x v).1 4 = x.1 4 + 1 ∧ (lPutS x v).1 2 = x.1 2 := by
  have e : lPutS x v = setS (setA x 1 (xup (x.2.1 1) (x.1 4).toNat v)) 4 (x.1 4 + 1) := if_pos h4
  rw [e]
  have h5 := h.2.2.1
  exact ⟨⟨h.1, h.2.1, ⟨by show 0 ≤ x.1 4 + 1; omega, by show x.1 4 + 1 ≤ 80; omega⟩, h.2.2.2⟩, rfl, rfl⟩
theorem ix_sign {v : Int} (hv : xB v) (h : lok x) (kk : ∀ x', lok x' → x'.1 4 = (if 76 < x.1 4 then x.1 4 else x.1 4 + 4) → x'.1 2 = x.1 2 → K [pI (if 76 < x.1 4 then -1 else x.1 4 + 4)] x') : sX2_sign v x K := by
  refine ⟨⟨hv, h⟩, ?_⟩
  unfold fSign
  by_cases c : 80 < x.1 4 + 4
  · rw [if_pos c]
    have k2 := kk x h (by rw [if_pos (by omega)]) rfl
    rw [if_pos (by omega)] at k2
    exact k2
  · rw [if_neg c]
    obtain ⟨a1, b1, c1⟩ := putS_ok (v := by8 v 24) h (by omega)
    generalize lPutS x (by8 v 24) = u1 at a1 b1 c1 ⊢
    obtain ⟨a2, b2, c2⟩ := putS_ok (v := by8 v 16) a1 (by omega)
    generalize lPutS u1 (by8 v 16) = u2 at a2 b2 c2 ⊢
    obtain ⟨a3, b3, c3⟩ := putS_ok (v := by8 v 8) a2 (by omega)
    generalize lPutS u2 (by8 v 8) = u3 at a3 b3 c3 ⊢
    obtain ⟨a4, b4, c4⟩ := putS_ok (v := by8 v 0) a3 (by omega)
    generalize lPutS u3 (by8 v 0) = u4 at a4 b4 c4 ⊢
    have k2 := kk u4 a4 (by rw [if_neg (by omega)]; omega) (by rw [c4, c3, c2, c1])
    rw [if_neg (by omega)] at k2
    have e : u4.1 4 = x.1 4 + 4 := by omega
    show K [pI (u4.1 4)] u4
    rw [e]
    exact k2
theorem ix_start {n g l e : Int} (hn : xB n) (hg : xB g) (hl : xB l) (he : xB e) (h : lok x) (kk : ∀ x', Ql x x' → K [pI (fStart x n g l e).1] x') : sX2_start n g l e x K := by
  refine ⟨⟨hn, hg, hl, he, h⟩, kk _ ?_⟩
  unfold fStart
  split
  · have q := ql_Rem h
    exact q.trans (ql_W q.1 (wok_Reset (q.1.2.2.2 0 (by decide))))
  · exact Ql.self h
theorem ix_delays {r v : Int} (hr : xB r) (hv : xB v) (h : lok x) (kk : ∀ a x', Ql x x' → K [pI a] x') : sX2_delays r v x K := by
  refine ⟨⟨hr, hv, h⟩, kk _ _ ?_⟩
  unfold fDelays
  split
  · split
    · exact Ql.self h
    · split
      · exact Ql.self h
      · have q := ql_Rem h
        exact q.trans (ql_W q.1 (wok_P (by decide) (q.1.2.2.2 0 (by decide))))
  · exact Ql.self h
theorem ix_event {k t v r : Int} (hk : xB k) (ht : xB t) (hv : xB v) (hr : xB r) (h : lok x) (kk : ∀ a x', Ql x x' → K [pI a] x') : sX2_event k t v r x K := by
  refine ⟨⟨hk, ht, hv, hr, h⟩, kk _ _ ?_⟩
  unfold fEvent
  split
  · exact Ql.self h
  · have q := ql_Rem h
    have q2 := q.trans (ql_W (q := 0) q.1 (wok_ComeE (k := k) (t := t) (v := v) (r := r) (q.1.2.2.2 0 (by decide))))
    exact q2.trans (ql_2 q2.1)
theorem ix_marks {r t : Int} (hr : xB r) (ht : xB t) (h : lok x) (kk : ∀ a x', Ql x x' → K [pI a] x') : sX2_marks r t x K := by
  refine ⟨⟨hr, ht, h⟩, kk _ _ ?_⟩
  unfold fMarks
  split
  · exact Ql.self h
  · have q := ql_Rem h
    have q2 := q.trans (ql_W (q := 0) q.1 (wok_ComeM (r := r) (t := t) (q.1.2.2.2 0 (by decide))))
    exact q2.trans (ql_1 q2.1)
theorem ix_idles {r : Int} (hr : xB r) (h : lok x) (kk : ∀ a x', Ql x x' → K [pI a] x') : sX2_idles r x K := by
  refine ⟨⟨hr, h⟩, kk _ _ ?_⟩
  unfold fIdles
  split
  · exact Ql.self h
  · have q := ql_Rem h
    have q2 := q.trans (ql_W (q := 0) q.1 (wok_ComeI (r := r) (q.1.2.2.2 0 (by decide))))
    exact q2.trans (ql_1 q2.1)
theorem ix_at {k t : Int} (hk : xB k) (ht : xB t) (h : lok x) (kk : ∀ a x', Ql x x' → K [pI a] x') : sX2_at k t x K := by
  refine ⟨⟨hk, ht⟩, kk _ _ ?_⟩
  unfold fAt
  split
  · split
    · exact Ql.self h
    · exact ql_1 h
  · exact Ql.self h
theorem ix_sent {k : Int} (hk : xB k) (h : lok x) (kk : ∀ a x', Ql x x' → K [pI a] x') : sX2_sent k x K := by
  refine ⟨hk, kk _ _ ?_⟩
  unfold fSent
  split
  · exact ql_1 h
  · exact Ql.self h
theorem ix_closed {k : Int} (hk : xB k) (h : lok x) (kk : ∀ a x', Ql x x' → K [pI a] x') : sX2_closed k x K := by
  refine ⟨hk, kk _ _ ?_⟩
  unfold fClosed
  split
  · exact ql_3 h
  · exact Ql.self h
theorem ix_taken (h : lok x) (kk : ∀ a x', Ql x x' → K [pI a] x') : sX2_taken x K := kk _ _ (ql_3 h)
theorem ix_would {k t v r : Int} (hk : xB k) (ht : xB t) (hv : xB v) (hr : xB r) (h : lok x) (kk : ∀ a x', Ql x x' → K [pI a] x') : sX2_would k t v r x K := by
  refine ⟨⟨hk, ht, hv, hr, h⟩, kk _ _ ?_⟩
  unfold fWould
  split
  · have q := ql_W (q := 1) h (wok_Copy (h.2.2.2 1 (by decide)) (h.2.2.2 0 (by decide)))
    have q2 := q.trans (ql_W (q := 1) q.1 (wok_PlayE (k := k) (t := t) (v := v) (r := r) (q.1.2.2.2 1 (by decide))))
    exact q2.trans (ql_2 q2.1)
  · exact Ql.self h
theorem rd_ok (n : Int) : ∀ (m : Nat) (i : Int) (x : LSt), lok x → Ql x (rdL n m i x)
  | 0, _, _, h => Ql.self h
  | m + 1, i, x, h => by
    rw [rdL]
    have q := ql_W (q := 1) h (wok_P (t := 0) (i := i) (c := 1) (v := wG (x.2.2 0) 0 i 1) (by decide) (h.2.2.2 1 (by decide)))
    exact q.trans (rd_ok n m (i + 1) _ q.1)
theorem rp_ok (lo : Int) : ∀ (m : Nat) (i : Int) (x : LSt), lok x → Ql x (rpL lo m i x)
  | 0, _, _, h => Ql.self h
  | m + 1, i, x, h => by
    rw [rpL]
    split
    · exact rp_ok lo m (i + 1) x h
    · have q := ql_W (q := 1) h (wok_PlayN (g := ((x.2.2 0).2 4).2) (i := i) (h.2.2.2 1 (by decide)))
      exact q.trans (rp_ok lo m (i + 1) _ q.1)
theorem ql_Replay {g l e lo : Int} (h : lok x) : Ql x (lReplay x g l e lo) := by
  unfold lReplay lRep2
  dsimp only
  have q1 := ql_W (q := 1) h (wok_Reset (n := wZ (x.2.2 0) 0) (g := g) (l := l) (e := e) (h.2.2.2 1 (by decide)))
  have q2 := q1.trans (rd_ok (wZ (x.2.2 0) 0) (wZ (x.2.2 0) 0).toNat 0 _ q1.1)
  generalize rdL (wZ (x.2.2 0) 0) (wZ (x.2.2 0) 0).toNat 0 (setW x 1 (wReset (x.2.2 1) (wZ (x.2.2 0) 0) g l e)) = u at q2 ⊢
  split
  · have q3 := q2.trans (ql_W (q := 1) q2.1 (wok_P (t := 0) (i := lo) (c := 2) (v := 1) (by decide) (q2.1.2.2.2 1 (by decide))))
    exact q3.trans (rp_ok lo _ 0 _ q3.1)
  · exact q2.trans (rp_ok lo _ 0 _ q2.1)
theorem ix_without {r : Int} (hr : xB r) (h : lok x) (kk : ∀ a x', Ql x x' → K [pI a] x') : sX2_without r x K := by
  refine ⟨⟨hr, h⟩, kk _ _ ?_⟩
  unfold fWithout
  split
  · split
    · exact Ql.self h
    · have q := ql_Replay (g := (x.2.2 0).1 0) (l := (x.2.2 0).1 1) (e := (x.2.2 0).1 2) (lo := r) h
      exact q.trans (ql_3 q.1)
  · exact Ql.self h
theorem ix_undo (h : lok x) (kk : ∀ a x', Ql x x' → K [pI a] x') : sX2_undo x K := by
  refine ⟨h, kk _ _ ?_⟩
  unfold fUndo
  split
  · exact Ql.self h
  · have hu := h.1
    have hj : 2 + (Int.tmod (x.1 0 + (x.1 1 - 1)) 6).toNat < 10 := by
      have := Int.tmod_lt_of_pos (x.1 0 + (x.1 1 - 1)) (b := 6) (by decide)
      omega
    have q : Ql x (setS x 1 (x.1 1 - 1)) := ⟨⟨⟨h.1.1, by show 0 ≤ x.1 1 - 1; omega, by show x.1 1 - 1 ≤ 6; omega⟩, h.2⟩, rfl, rfl⟩
    exact q.trans (ql_W (q := 0) q.1 (wok_Copy (h.2.2.2 0 (by decide)) (h.2.2.2 _ hj)))
theorem ix_keep {i : Int} (hi : xB i) (h : lok x) (kk : ∀ x', lok x' → x'.1 4 = x.1 4 → x'.1 2 = (if 0 ≤ i ∧ i < 2 then (iI (x.1 2) ||| iI (bitOf i)).toInt else x.1 2) → K [pI (fKeep x i).1] x') : sX2_keep i x K := by
  refine ⟨⟨hi, h⟩, ?_⟩
  by_cases c : 0 ≤ i ∧ i < 2
  · have e : fKeep x i = (1, setS (setW x (8 + i.toNat) (wCopy (x.2.2 (8 + i.toNat)) (x.2.2 0))) 2 (iI (x.1 2) ||| iI (bitOf i)).toInt) := if_pos c
    have q := ql_W (q := 8 + i.toNat) h (wok_Copy (h.2.2.2 (8 + i.toNat) (by omega)) (h.2.2.2 0 (by decide)))
    have k2 := kk (setS (setW x (8 + i.toNat) (wCopy (x.2.2 (8 + i.toNat)) (x.2.2 0))) 2 (iI (x.1 2) ||| iI (bitOf i)).toInt) q.1 rfl (by rw [if_pos c]; rfl)
    rw [e] at k2 ⊢
    exact k2
  · have e : fKeep x i = (0, x) := if_neg c
    have k2 := kk x h rfl (by rw [if_neg c])
    rw [e] at k2 ⊢
    exact k2
theorem ix_back {i : Int} (hi : xB i) (h : lok x) (kk : ∀ x', Ql x x' → K [pI (fBack x i).1] x') : sX2_back i x K := by
  refine ⟨⟨hi, h⟩, kk _ ?_⟩
  unfold fBack
  split
  · rename_i c
    have q := ql_W (q := 0) h (wok_Copy (h.2.2.2 0 (by decide)) (h.2.2.2 (8 + i.toNat) (by omega)))
    exact ⟨⟨⟨q.1.1.1, by show (0 : Int) ≤ 0; decide, by show (0 : Int) ≤ 6; decide⟩, q.1.2⟩, rfl, rfl⟩
  · exact Ql.self h
theorem ix_count {a : Int} (ha : xB a) (h : lok x) (kk : ∀ a x', Ql x x' → K [pI a] x') : sX2_count a x K := ⟨ha, kk _ _ (Ql.self h)⟩
theorem agL2_ok : ∀ (m : Nat) (k : Int) (x : LSt), lok x → Ql x (agL2 m k x)
  | 0, _, _, h => Ql.self h
  | m + 1, k, x, h => by
    rw [agL2]
    exact (ql_T h).trans (agL2_ok m (k + 1) _ (ql_T h).1)
theorem ix_again {g l e : Int} (hg : xB g) (hl : xB l) (he : xB e) (h : lok x) (kk : ∀ a x', Ql x x' → K [pI a] x') : sX2_again g l e x K := by
  refine ⟨⟨hg, hl, he, h⟩, kk _ _ ?_⟩
  unfold fAgain
  split
  · have q := ql_Replay (g := g) (l := l) (e := e) (lo := -1) h
    have q2 := q.trans (ql_0 q.1)
    have q3 := q2.trans (agL2_ok 4 0 _ q2.1)
    have q4 := q3.trans (ql_T (v := wZ ((lReplay x g l e (-1)).2.2 1) 1) q3.1)
    exact q4.trans (ql_T q4.1)
  · exact Ql.self h
theorem ix_stands (h : lok x) (kk : ∀ a x', Ql x x' → K [pI a] x') : sX2_stands x K := kk _ _ (ql_2 h)
theorem knL_ok (k : Int) : ∀ (m : Nat) (i t : Int) (x : LSt), lok x → Ql x (knL k m i t x).2
  | 0, _, _, _, h => Ql.self h
  | m + 1, i, t, x, h => by
    rw [knL]
    exact (ql_T h).trans (knL_ok k m (i + 1) _ _ (ql_T h).1)
theorem ix_kinds {k : Int} (hk : xB k) (h : lok x) (kk : ∀ a x', Ql x x' → K [pI a] x') : sX2_kinds k x K := by
  refine ⟨hk, kk _ _ ?_⟩
  unfold fKinds
  split
  · have q := (ql_0 h).trans (knL_ok k 4 0 0 _ (ql_0 h).1)
    exact q.trans (ql_T q.1)
  · exact Ql.self h
theorem ix_slow (h : lok x) (kk : ∀ a x', Ql x x' → K [pI a] x') : sX2_slow x K := by
  refine kk _ _ ?_
  unfold fSlow fSlow2
  split
  · exact Ql.self h
  · exact ql_2 h
theorem ix_holds (h : lok x) (kk : ∀ a x', Ql x x' → K [pI a] x') : sX2_holds x K := kk _ _ (ql_2 h)
theorem ix_next (h : lok x) (kk : ∀ a x', Ql x x' → K [pI a] x') : sX2_next x K := by
  refine kk _ _ ?_
  unfold fNext fNext2
  split
  · exact Ql.self h
  · exact ql_1 h
theorem ix_ahead {p : Int} (hp : xB p) (h : lok x) (kk : ∀ a x', Ql x x' → K [pI a] x') : sX2_ahead p x K := by
  refine ⟨hp, kk _ _ ?_⟩
  unfold fAhead
  split
  · split
    · exact Ql.self h
    · exact ql_1 h
  · exact Ql.self h
theorem ix_latest (h : lok x) (kk : ∀ a x', Ql x x' → K [pI a] x') : sX2_latest x K := kk _ _ (ql_1 h)
theorem ix_span {f t : Int} (hf : xB f) (ht : xB t) (h : lok x) (kk : ∀ a x', Ql x x' → K [pI a] x') : sX2_span f t x K := by
  refine ⟨⟨hf, ht⟩, kk _ _ ?_⟩
  unfold fSpan
  split
  · exact ql_3 h
  · exact Ql.self h
/-- arrays alone -/
theorem ins_ok (t i : Int) : ∀ (p : Nat) (x : LSt), lok x → Ql x (insL t i p x)
  | 0, x, h => ql_A h
  | p + 1, x, h => by
    rw [insL]
    split
    · exact (ql_A h).trans (ins_ok t i p _ (ql_A h).1)
    · exact ql_A h
theorem srt_ok (k : Int) : ∀ (m : Nat) (i : Int) (n : Nat) (x : LSt), lok x → Ql x (srtL k m i n x).2
  | 0, _, _, _, h => Ql.self h
  | m + 1, i, n, x, h => by
    rw [srtL]
    split
    · have q := ins_ok (wG (x.2.2 0) 4 i 2) i n x h
      exact q.trans (srt_ok k m (i + 1) (n + 1) _ q.1)
    · exact srt_ok k m (i + 1) n x h
theorem ql_Sort {k : Int} (h : lok x) : Ql x (lSort x k).2 := srt_ok k _ 0 0 x h
theorem ix_batch {k : Int} (hk : xB k) (h : lok x) (kk : ∀ a x', Ql x x' → K [pI a] x') : sX2_batch k x K := by
  refine ⟨⟨hk, h⟩, kk _ _ ?_⟩
  unfold fBatch
  split
  · exact (ql_Sort h).trans (ql_3 (ql_Sort h).1)
  · exact Ql.self h
theorem yrL_ok (r : Int) : ∀ (m : Nat) (d : Int) (x : LSt), lok x → Ql x (yrL r m d x)
  | 0, _, _, h => Ql.self h
  | m + 1, d, x, h => by
    rw [yrL]
    have q := ql_W (q := 1) h (wok_PlayE (k := dOf (dAfter d) 6) (t := max 0 (min 9999 (wI (wI ((x.2.2 1).1 3 - (x.2.2 1).1 1) + dOf (dAfter (dAfter d)) 100)))) (v := wI (dOf (dAfter (dAfter (dAfter d))) 199 - 99)) (r := dOf (dAfter (dAfter (dAfter (dAfter d)))) r) (h.2.2.2 1 (by decide)))
    exact q.trans (yrL_ok r m _ _ q.1)
theorem ix_years {d n : Int} (hd : xB d) (hn : xB n) (h : lok x) (kk : ∀ a x', Ql x x' → K [pI a] x') : sX2_years d n x K := by
  refine ⟨⟨hd, hn, h⟩, kk _ _ ?_⟩
  unfold fYears
  split
  · have q := ql_W (q := 1) h (wok_Copy (h.2.2.2 1 (by decide)) (h.2.2.2 0 (by decide)))
    have q2 := q.trans (yrL_ok (max 1 (wZ (x.2.2 0) 0)) (min n (wI (160 - wZ (x.2.2 0) 4))).toNat d _ q.1)
    exact q2.trans (ql_2 q2.1)
  · exact Ql.self h
theorem ptL_ok (n : Int) : ∀ (m : Nat) (k : Int) (x : LSt), lok x → Ql x (ptL n m k x)
  | 0, _, _, h => Ql.self h
  | m + 1, k, x, h => by
    rw [ptL]
    split
    · exact (ql_A h).trans (ptL_ok n m (k + 1) _ (ql_A h).1)
    · exact ptL_ok n m (k + 1) x h
theorem ix_parts {k n : Int} (hk : xB k) (hn : xB n) (h : lok x) (kk : ∀ a x', Ql x x' → K [pI a] x') : sX2_parts k n x K := by
  refine ⟨⟨hk, hn, h⟩, kk _ _ ?_⟩
  unfold fParts
  split
  · split
    · exact ql_Sort h
    · have q := (ql_Sort (k := k) h).trans (ql_A (a := 3) (g := fun j => if j < 101 then 0 else (lSort x k).2.2.1 3 j) (ql_Sort (k := k) h).1)
      exact q.trans (ptL_ok _ _ 0 _ q.1)
  · exact Ql.self h
end FX
