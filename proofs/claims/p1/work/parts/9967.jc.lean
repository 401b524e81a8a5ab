/-! ===== years: the class, one source ===== -/
def wK (w w' : WS) : Prop := (∀ k, k ≠ 4 → k ≠ 5 → k ≠ 9 → w'.1 k = w.1 k) ∧ w'.2 0 = w.2 0
theorem wK.same {w : WS} : wK w w := ⟨fun _ _ _ _ => rfl, rfl⟩
theorem wK.trans {w x y : WS} (h : wK w x) (g : wK x y) : wK w y := ⟨fun k a b c => (g.1 k a b c).trans (h.1 k a b c), g.2.trans h.2⟩
section WK
variable {w x : WS} {t : Nat} {i c v : Int}
theorem wKP (h : wK w x) : wK w (wP x (t + 1) i c v) := ⟨h.1, h.2⟩
theorem wKA (h : wK w x) : wK w (wA x (t + 1) i c v) := ⟨h.1, h.2⟩
theorem wKRe (h : wK w x) : wK w (wRe x (t + 1) i) := ⟨h.1, h.2⟩
theorem wKDr (h : wK w x) : wK w (wDr x (t + 1) i) := ⟨h.1, h.2⟩
theorem wKOp (h : wK w x) : wK w (wOp x (t + 1) i) := ⟨h.1, h.2⟩
theorem wKCR {j : Int} (h : wK w x) : wK w (wCR x i j) := ⟨h.1, h.2⟩
theorem fd_ne {k j : Nat} (h : j ≠ k) : (wFd x k v).1 j = x.1 j := by
  have e : Nat.beq j k = false := by
    cases hb : Nat.beq j k with
    | false => rfl
    | true => exact absurd (Nat.eq_of_beq_eq_true hb) h
  show (bif Nat.beq j k then v else x.1 j) = _
  rw [e]; rfl
theorem wKF4 (h : wK w x) : wK w (wFd x 4 v) := ⟨fun k a b c => (fd_ne a).trans (h.1 k a b c), h.2⟩
theorem wKF5 (h : wK w x) : wK w (wFd x 5 v) := ⟨fun k a b c => (fd_ne b).trans (h.1 k a b c), h.2⟩
theorem wKF9 (h : wK w x) : wK w (wFd x 9 v) := ⟨fun k a b c => (fd_ne c).trans (h.1 k a b c), h.2⟩
theorem wK_send (h : wK w x) (k : Int) : wK w (wSend x k i) := by
  unfold wSend
  exact wKF4 (wKA (wKP (wKP (wKP (wKP (wKP (wKP (wKRe h))))))))
theorem wK_take (h : wK w x) : wK w (wTake x i) := by
  unfold wTake
  split
  · exact wKP (wK_send h 3)
  · exact h
theorem wK_ann (h : wK w x) (k : Int) : wK w (wAnn x k i) := wKP (wK_send h k)
theorem wK_takeL : ∀ (n : Nat) (i : Int) (x : WS), wK w x → wK w (takeL n i x)
  | 0, _, _, h => h
  | n + 1, i, x, h => wK_takeL n (i + 1) _ (wK_take h)
theorem wK_swal (h : wK w x) : wK w (wSwallow x i) := by
  unfold wSwallow
  exact wKDr (wKP (wKA (wKA (wKP (wKP h)))))
theorem wK_swL {p : Int} : ∀ (n : Nat) (x : WS), wK w x → wK w (swL p n x)
  | 0, _, h => h
  | n + 1, x, h => wK_swL n _ (wK_swal h)
theorem wK_row {k t v p : Int} (h : wK w x) : wK w (wRow x p k t v) := by
  unfold wRow
  exact wKP (wKP (wKP (wKP (wKP (wKP (wKP (wKOp h)))))))
theorem wK_meltE {p m : Int} (h : wK w x) : wK w (wMeltE x p m) := by
  unfold wMeltE
  simp only []
  generalize wI (x.1 9 + (if 1 < m then 1 else 0)) = e
  split
  · exact wK_ann (wKF9 h) _
  · exact wKF9 h
theorem wK_melt {k t v : Int} (h : wK w x) : wK w (wMelt x k t v) := by
  unfold wMelt wMelt2
  split
  · exact wK_meltE (wK_swL _ _ (wK_row (wK_takeL _ _ _ h)))
  · exact wK_takeL _ _ _ h
theorem wK_fin (h : wK w x) : wK w (wFin x i) := by
  unfold wFin
  exact wKDr (wKF5 (wKP (wKA (wKA (wKA (wKCR (wKRe h)))))))
theorem wK_step {be : Int} (h : wK w x) : wK w (wStep x be i) := by
  unfold wStep
  have h1 : wK w (if wRipe x i be then x else wAnn (wTake x i) 1 i) := by
    split
    · exact h
    · exact wK_ann (wK_take h) 1
  simp only []
  generalize (if wRipe x i be then x else wAnn (wTake x i) 1 i) = y at h1 ⊢
  split
  · exact wK_fin h1
  · exact h1
theorem wK_riseL {be : Int} : ∀ (n : Nat) (pa : Int) (x : WS), wK w x → wK w (riseL be n pa x)
  | 0, _, _, h => h
  | n + 1, pa, x, h => by
    rw [riseL]
    split
    · exact h
    · exact wK_riseL n _ _ (wK_step h)
end WK
theorem rise_sp (w : WS) : wRise w = w ∨ (w.1 3 < wLeast w (-1) ∧ wK (wFd w 3 (wLeast w (-1))) (wRise w)) := by
  unfold wRise
  split
  · exact Or.inl rfl
  · rename_i h
    exact Or.inr ⟨by omega, wK_riseL _ _ _ wK.same⟩
/-- a World of one source -/
def wJ (j : Int) (w : WS) : Prop := w.1 1 = 5 ∧ (0 ≤ w.1 3 ∧ w.1 3 ≤ 9979) ∧ w.1 6 = j ∧ (w.2 0).1 = 1 ∧ (w.2 0).2 0 ≤ 9979 ∧ (w.2 0).2 1 = 20
theorem least1 {w : WS} (h1 : (w.2 0).1 = 1) (h2 : (w.2 0).2 2 = 0) : wLeast w (-1) = (w.2 0).2 0 := by
  unfold wLeast
  rw [show wZ w 0 = 1 from h1]
  show (if (0 : Int) = -1 ∨ wG w 0 0 2 ≠ 0 then (-1 : Int) else if (-1 : Int) < 0 then wG w 0 0 0 else _) = _
  have e2 : wG w 0 0 2 = 0 := h2
  rw [if_neg (by rw [e2]; decide), if_pos (by decide)]
  rfl
theorem rise_ok {j : Int} {w : WS} (h1 : w.1 1 = 5) (h3 : 0 ≤ w.1 3 ∧ w.1 3 ≤ 9979) (h6 : w.1 6 = j) (z : (w.2 0).1 = 1) (t0 : (w.2 0).2 0 ≤ 9979) (t1 : (w.2 0).2 1 = 20) (t2 : (w.2 0).2 2 = 0) : wJ j (wRise w) := by
  rcases rise_sp w with e | ⟨e1, e2⟩
  · rw [e]
    exact ⟨h1, h3, h6, z, t0, t1⟩
  · rw [least1 z t2] at e1 e2
    have a1 := e2.1 1 (by decide) (by decide) (by decide)
    have a3 := e2.1 3 (by decide) (by decide) (by decide)
    have a6 := e2.1 6 (by decide) (by decide) (by decide)
    rw [fd_ne (by decide)] at a1 a6
    have f3 : (wFd w 3 ((w.2 0).2 0)).1 3 = (w.2 0).2 0 := rfl
    rw [f3] at a3
    have b := e2.2
    refine ⟨a1.trans h1, by rw [a3]; omega, a6.trans h6, by rw [b]; exact z, by rw [b]; exact t0, by rw [b]; exact t1⟩
theorem play_ok {j k t v : Int} {w : WS} (h : wJ j w) (hj : 0 ≤ j ∧ j ≤ 1000) (ht : 0 ≤ t ∧ t ≤ 9999) (hf : wFate w t ≠ 2) : wJ (j + 1) (wPlayE w k t v 0) := by
  obtain ⟨h1, h3, h6, z, t0, t1⟩ := h
  unfold wPlayE
  simp only []
  rw [if_neg hf]
  have M := wK_melt (k := k) (t := t) (v := v) (wK.same (w := wFd (wFd (wA w 0 0 3 1) 6 (wI ((wA w 0 0 3 1).1 6 + 1))) 7 (wI ((wA w 0 0 3 1).1 7 + (if wFate w t = 1 then 1 else 0)))))
  have m1 := M.1 1 (by decide) (by decide) (by decide)
  have m3 := M.1 3 (by decide) (by decide) (by decide)
  have m6 := M.1 6 (by decide) (by decide) (by decide)
  have mz := M.2
  generalize wMelt (wFd (wFd (wA w 0 0 3 1) 6 (wI ((wA w 0 0 3 1).1 6 + 1))) 7 (wI ((wA w 0 0 3 1).1 7 + (if wFate w t = 1 then 1 else 0)))) k t v = B at m1 m3 m6 mz ⊢
  have b1 : B.1 1 = 5 := m1.trans h1
  have b3 : B.1 3 = w.1 3 := m3
  have b6 : B.1 6 = j + 1 := m6.trans (by show wI (w.1 6 + 1) = _; rw [h6, wI_id ⟨by omega, by omega⟩])
  have bz : (B.2 0).1 = 1 := by rw [mz]; exact z
  have b0 : (B.2 0).2 0 = (w.2 0).2 0 := by rw [mz]; rfl
  have b20 : (B.2 0).2 1 = 20 := by rw [mz]; exact t1
  have c1 : (wP B 0 0 2 0).1 = B.1 := rfl
  have cz : ((wP B 0 0 2 0).2 0).1 = (B.2 0).1 := rfl
  have c0 : ((wP B 0 0 2 0).2 0).2 0 = (B.2 0).2 0 := rfl
  have c20 : ((wP B 0 0 2 0).2 0).2 1 = (B.2 0).2 1 := rfl
  have c2 : ((wP B 0 0 2 0).2 0).2 2 = 0 := rfl
  generalize wP B 0 0 2 0 = C at c1 cz c0 c20 c2 ⊢
  have g : wG C 0 0 1 = 20 := (show wG C 0 0 1 = (C.2 0).2 1 from rfl).trans (c20.trans b20)
  rw [g, wI_id (z := t - 20) ⟨by omega, by omega⟩]
  unfold wRaise
  split
  · refine rise_ok ?_ ?_ ?_ ?_ ?_ ?_ ?_
    · show C.1 1 = 5; rw [c1]; exact b1
    · show 0 ≤ C.1 3 ∧ C.1 3 ≤ 9979; rw [c1, b3]; exact h3
    · show C.1 6 = _; rw [c1]; exact b6
    · show (C.2 0).1 = 1; rw [cz]; exact bz
    · show t - 20 ≤ 9979; omega
    · show (C.2 0).2 1 = 20; rw [c20]; exact b20
    · show (C.2 0).2 2 = 0; exact c2
  · refine rise_ok (by rw [c1]; exact b1) (by rw [c1, b3]; exact h3) (by rw [c1]; exact b6) (by rw [cz]; exact bz) (by rw [c0, b0]; exact t0) (by rw [c20]; exact b20) c2
