/-! ===== what the law's two sides have in common: lengths, kept flags (by program) ===== -/
def kfR (x : LSt) (m : MS) : Prop := (m.2 12 0 = 0 ∨ m.2 12 0 = 1) ∧ (m.2 12 1 = 0 ∨ m.2 12 1 = 1) ∧ x.1 2 = m.2 12 0 + 2 * m.2 12 1
def lwR (x : LSt) (m : MS) : Prop := lok x ∧ Inv m ∧ x.1 4 = m.1 4 ∧ kfR x m
theorem kfR.of {x x' : LSt} {m m' : MS} (h : kfR x m) (e2 : x'.1 2 = x.1 2) (e12 : m'.2 12 = m.2 12) : kfR x' m' := by
  unfold kfR
  rw [e2, e12]
  exact h
theorem lwR.step {x x' : LSt} {m m' : MS} (h : lwR x m) (a : Ql x x') (b : Qi m m') : lwR x' m' := ⟨a.1, b.1, by rw [a.2.1, b.2.1]; exact h.2.2.1, h.2.2.2.of a.2.2 b.2.2⟩
theorem eq_end {x : LSt} {m : MS} (h : lwR x m) (n : Int) : (gEnd m n).1 = (fEnd x n).1 := by
  have e := h.2.2.1
  unfold gEnd fEnd
  by_cases c : inB n 0 (m.1 4)
  · rw [if_pos c, if_pos (by omega)]
  · rw [if_neg c, if_neg (by omega)]
theorem eq_sign {x : LSt} {m : MS} (h : lwR x m) (v : Int) : (gSign m v).1 = (if 76 < x.1 4 then -1 else x.1 4 + 4) := by
  have e := h.2.2.1
  unfold gSign
  by_cases c : 76 < m.1 4
  · rw [if_pos c, if_pos (by omega)]
  · rw [if_neg c, if_neg (by omega), e]
theorem eq_start {x : LSt} {m : MS} (n g l e : Int) : (gStart m n g l e).1 = (fStart x n g l e).1 := by
  unfold gStart fStart
  by_cases c : inB n 1 4 ∧ okSet g l e
  · rw [if_pos c, if_pos c]
  · rw [if_neg c, if_neg c]
theorem eq_keep {x : LSt} {m : MS} (i : Int) : (gKeep m i).1 = (fKeep x i).1 := by
  unfold gKeep fKeep
  by_cases c : inB i 0 1
  · rw [if_pos c, if_pos (by omega)]
  · rw [if_neg c, if_neg (by omega)]
theorem or0 : ∀ a : Nat, a < 4 → (iI (a : Int) ||| iI (bitOf 0)).toInt = (if a % 2 = 0 then (a : Int) + 1 else a) := by decide +kernel
theorem or1 : ∀ a : Nat, a < 4 → (iI (a : Int) ||| iI (bitOf 1)).toInt = (if a < 2 then (a : Int) + 2 else a) := by decide +kernel
theorem an0 : ∀ a : Nat, a < 4 → ((iI (a : Int) &&& iI (bitOf 0)).toInt ≠ 0 ↔ a % 2 = 1) := by decide +kernel
theorem an1 : ∀ a : Nat, a < 4 → ((iI (a : Int) &&& iI (bitOf 1)).toInt ≠ 0 ↔ 2 ≤ a) := by decide +kernel
theorem kfR.nat {x : LSt} {m : MS} (h : kfR x m) : ∃ a : Nat, a < 4 ∧ x.1 2 = (a : Int) := by
  obtain ⟨h0, h1, h2⟩ := h
  exact ⟨(x.1 2).toNat, by omega, by omega⟩
theorem eq_back {x : LSt} {m : MS} (h : lwR x m) (i : Int) : (gBack m i).1 = (fBack x i).1 := by
  obtain ⟨h0, h1, h2⟩ := h.2.2.2
  obtain ⟨a, a4, ea⟩ := h.2.2.2.nat
  unfold gBack fBack
  rw [ea]
  by_cases c : inB i 0 1
  · have q : (iI (a : Int) &&& iI (bitOf i)).toInt ≠ 0 ↔ m.2 12 i.toNat ≠ 0 := by
      by_cases c0 : i = 0
      · subst c0
        rw [an0 a a4]
        show a % 2 = 1 ↔ m.2 12 0 ≠ 0
        omega
      · have c1 : i = 1 := by omega
        subst c1
        rw [an1 a a4]
        show 2 ≤ a ↔ m.2 12 1 ≠ 0
        omega
    by_cases c2 : m.2 12 i.toNat ≠ 0
    · rw [if_pos ⟨c, c2⟩, if_pos ⟨by omega, q.mpr c2⟩]
    · rw [if_neg (fun z => c2 z.2), if_neg (fun z => c2 (q.mp z.2))]
  · rw [if_neg (fun z => c z.1), if_neg (fun z => c (by omega))]
theorem kf_keep {x x' : LSt} {m m' : MS} {i : Int} (h : lwR x m) (e2 : x'.1 2 = (if 0 ≤ i ∧ i < 2 then (iI (x.1 2) ||| iI (bitOf i)).toInt else x.1 2)) (e12 : m'.2 12 = (if inB i 0 1 then xup (m.2 12) i.toNat 1 else m.2 12)) : kfR x' m' := by
  obtain ⟨h0, h1, h2⟩ := h.2.2.2
  obtain ⟨a, a4, ea⟩ := h.2.2.2.nat
  by_cases c : inB i 0 1
  · rw [if_pos (by omega), ea] at e2
    rw [if_pos c] at e12
    by_cases c0 : i = 0
    · subst c0
      rw [or0 a a4] at e2
      have f0 : m'.2 12 0 = 1 := by rw [e12]; rfl
      have f1 : m'.2 12 1 = m.2 12 1 := by rw [e12]; rfl
      refine ⟨by omega, by omega, ?_⟩
      rw [e2, f0, f1]
      split <;> omega
    · have c1 : i = 1 := by omega
      subst c1
      rw [or1 a a4] at e2
      have f0 : m'.2 12 1 = 1 := by rw [e12]; rfl
      have f1 : m'.2 12 0 = m.2 12 0 := by rw [e12]; rfl
      refine ⟨by omega, by omega, ?_⟩
      rw [e2, f0, f1]
      split <;> omega
  · rw [if_neg (by omega)] at e2
    rw [if_neg c] at e12
    exact h.2.2.2.of e2 e12
section RL
variable {z : Nat → Int} {i : Nat} {x : LSt} {m : MS}
theorem rl_0 (h : lwR x m) (hz : ∀ j, xB (z (i + j))) : sX2_sign (z (i + 1)) x (fun v x' => ∃ q, v = [pI q] ∧ sX3_sign (z (i + 1)) m (fun w m' => (∃ q, w = [pI q]) ∧ lwR x' m')) := by
  refine ix_sign (hz 1) h.1 (fun x' l e4 e2 => ⟨_, rfl, iv_sign h.2.1 (fun m' I f4 f12 => ⟨?_, l, I, ?_, h.2.2.2.of e2 f12⟩)⟩)
  · first | exact ⟨_, rfl⟩ | rw [eq_sign h]
  · rw [e4, f4, h.2.2.1]
theorem rl_1 (h : lwR x m) (hz : ∀ j, xB (z (i + j))) : sX2_end (z (i + 1)) x (fun v x' => ∃ q, v = [pI q] ∧ sX3_end (z (i + 1)) m (fun w m' => w = [pI q] ∧ lwR x' m')) := by
  refine ix_end (hz 1) h.1 (fun x' l e4 e2 => ⟨_, rfl, iv_end (hz 1) h.2.1 (fun m' I f4 f12 => ⟨?_, l, I, ?_, h.2.2.2.of e2 f12⟩)⟩)
  · first | exact ⟨_, rfl⟩ | rw [eq_end h]
  · rw [e4, f4, h.2.2.1]
theorem rl_2 (h : lwR x m) (hz : ∀ j, xB (z (i + j))) : sX2_start (z (i + 1)) (z (i + 2)) (z (i + 3)) (z (i + 4)) x (fun v x' => ∃ q, v = [pI q] ∧ sX3_start (z (i + 1)) (z (i + 2)) (z (i + 3)) (z (i + 4)) m (fun w m' => (∃ q, w = [pI q]) ∧ lwR x' m')) := by
  refine ix_start (hz 1) (hz 2) (hz 3) (hz 4) h.1 (fun x' qx => ⟨_, rfl, iv_start (hz 1) (hz 2) (hz 3) (hz 4) h.2.1 (fun m' qm => ⟨?_, h.step qx qm⟩)⟩)
  first | exact ⟨_, rfl⟩ | rw [eq_start (x := x)]
theorem rl_3 (h : lwR x m) (hz : ∀ j, xB (z (i + j))) : sX2_delays (z (i + 1)) (z (i + 2)) x (fun v x' => ∃ q, v = [pI q] ∧ sX3_delays (z (i + 1)) (z (i + 2)) m (fun w m' => (∃ q, w = [pI q]) ∧ lwR x' m')) := by
  exact ix_delays (hz 1) (hz 2) h.1 (fun a x' qx => ⟨a, rfl, iv_delays (hz 1) (hz 2) h.2.1 (fun b m' qm => ⟨⟨b, rfl⟩, h.step qx qm⟩)⟩)
theorem rl_4 (h : lwR x m) (hz : ∀ j, xB (z (i + j))) : sX2_event (z (i + 1)) (z (i + 2)) (z (i + 3)) (z (i + 4)) x (fun v x' => ∃ q, v = [pI q] ∧ sX3_event (z (i + 1)) (z (i + 2)) (z (i + 3)) (z (i + 4)) m (fun w m' => (∃ q, w = [pI q]) ∧ lwR x' m')) := by
  exact ix_event (hz 1) (hz 2) (hz 3) (hz 4) h.1 (fun a x' qx => ⟨a, rfl, iv_event (hz 1) (hz 2) (hz 3) (hz 4) h.2.1 (fun b m' qm => ⟨⟨b, rfl⟩, h.step qx qm⟩)⟩)
theorem rl_5 (h : lwR x m) (hz : ∀ j, xB (z (i + j))) : sX2_events x (fun v x' => ∃ q, v = [pI q] ∧ sX3_events m (fun w m' => (∃ q, w = [pI q]) ∧ lwR x' m')) := by
  exact ix_events h.1 (fun a x' l e4 e2 => ⟨a, rfl, iv_events h.2.1 (fun b m' I f4 f12 => ⟨⟨b, rfl⟩, l, I, e4.trans f4.symm, h.2.2.2.of e2 f12⟩)⟩)
theorem rl_6 (h : lwR x m) (hz : ∀ j, xB (z (i + j))) : sX2_marks (z (i + 1)) (z (i + 2)) x (fun v x' => ∃ q, v = [pI q] ∧ sX3_marks (z (i + 1)) (z (i + 2)) m (fun w m' => (∃ q, w = [pI q]) ∧ lwR x' m')) := by
  exact ix_marks (hz 1) (hz 2) h.1 (fun a x' qx => ⟨a, rfl, iv_marks (hz 1) (hz 2) h.2.1 (fun b m' qm => ⟨⟨b, rfl⟩, h.step qx qm⟩)⟩)
theorem rl_7 (h : lwR x m) (hz : ∀ j, xB (z (i + j))) : sX2_idles (z (i + 1)) x (fun v x' => ∃ q, v = [pI q] ∧ sX3_idles (z (i + 1)) m (fun w m' => (∃ q, w = [pI q]) ∧ lwR x' m')) := by
  exact ix_idles (hz 1) h.1 (fun a x' qx => ⟨a, rfl, iv_idles (hz 1) h.2.1 (fun b m' qm => ⟨⟨b, rfl⟩, h.step qx qm⟩)⟩)
theorem rl_8 (h : lwR x m) (hz : ∀ j, xB (z (i + j))) : (lSrc x (z (i + 1)) ∧ 0 ≤ z (i + 2) ∧ z (i + 2) ≤ 5 → sX3_source (z (i + 1)) (z (i + 2)) m (fun w m' => (∃ q, w = [pI q]) ∧ lwR x m')) ∧ (¬ (lSrc x (z (i + 1)) ∧ 0 ≤ z (i + 2) ∧ z (i + 2) ≤ 5) → sX3_source (z (i + 1)) (z (i + 2)) m (fun w m' => (∃ q, w = [pI q]) ∧ lwR x m')) := by
  exact ⟨fun _ => iv_source (hz 1) (hz 2) h.2.1 (fun b m' qm => ⟨⟨b, rfl⟩, h.step (Ql.self h.1) qm⟩), fun _ => iv_source (hz 1) (hz 2) h.2.1 (fun b m' qm => ⟨⟨b, rfl⟩, h.step (Ql.self h.1) qm⟩)⟩
theorem rl_9 (h : lwR x m) (hz : ∀ j, xB (z (i + j))) : ((0 ≤ z (i + 1) ∧ z (i + 1) < wZ (x.2.2 0) 1) ∧ 0 ≤ z (i + 2) ∧ z (i + 2) ≤ 7 → sX3_session (z (i + 1)) (z (i + 2)) m (fun w m' => (∃ q, w = [pI q]) ∧ lwR x m')) ∧ (¬ ((0 ≤ z (i + 1) ∧ z (i + 1) < wZ (x.2.2 0) 1) ∧ 0 ≤ z (i + 2) ∧ z (i + 2) ≤ 7) → sX3_session (z (i + 1)) (z (i + 2)) m (fun w m' => (∃ q, w = [pI q]) ∧ lwR x m')) := by
  exact ⟨fun _ => iv_session (hz 1) (hz 2) h.2.1 (fun b m' qm => ⟨⟨b, rfl⟩, h.step (Ql.self h.1) qm⟩), fun _ => iv_session (hz 1) (hz 2) h.2.1 (fun b m' qm => ⟨⟨b, rfl⟩, h.step (Ql.self h.1) qm⟩)⟩
theorem rl_10 (h : lwR x m) (hz : ∀ j, xB (z (i + j))) : sX2_at (z (i + 1)) (z (i + 2)) x (fun v x' => ∃ q, v = [pI q] ∧ sX3_at (z (i + 1)) (z (i + 2)) m (fun w m' => (∃ q, w = [pI q]) ∧ lwR x' m')) := by
  exact ix_at (hz 1) (hz 2) h.1 (fun a x' qx => ⟨a, rfl, iv_at (hz 1) (hz 2) h.2.1 (fun b m' qm => ⟨⟨b, rfl⟩, h.step qx qm⟩)⟩)
theorem rl_11 (h : lwR x m) (hz : ∀ j, xB (z (i + j))) : (ofLatest (z (i + 1)) ((x.2.2 0).1 4) 60 ∧ 0 ≤ z (i + 2) ∧ z (i + 2) < 6 → sX3_message (z (i + 1)) (z (i + 2)) m (fun w m' => (∃ q, w = [pI q]) ∧ lwR x m')) ∧ (¬ (ofLatest (z (i + 1)) ((x.2.2 0).1 4) 60 ∧ 0 ≤ z (i + 2) ∧ z (i + 2) < 6) → sX3_message (z (i + 1)) (z (i + 2)) m (fun w m' => (∃ q, w = [pI q]) ∧ lwR x m')) := by
  exact ⟨fun _ => iv_message (hz 1) (hz 2) h.2.1 (fun b m' qm => ⟨⟨b, rfl⟩, h.step (Ql.self h.1) qm⟩), fun _ => iv_message (hz 1) (hz 2) h.2.1 (fun b m' qm => ⟨⟨b, rfl⟩, h.step (Ql.self h.1) qm⟩)⟩
theorem rl_12 (h : lwR x m) (hz : ∀ j, xB (z (i + j))) : sX2_sent (z (i + 1)) x (fun v x' => ∃ q, v = [pI q] ∧ sX3_sent (z (i + 1)) m (fun w m' => (∃ q, w = [pI q]) ∧ lwR x' m')) := by
  exact ix_sent (hz 1) h.1 (fun a x' qx => ⟨a, rfl, iv_sent (hz 1) h.2.1 (fun b m' qm => ⟨⟨b, rfl⟩, h.step qx qm⟩)⟩)
theorem rl_13 (h : lwR x m) (hz : ∀ j, xB (z (i + j))) : sX2_stands x (fun v x' => ∃ q, v = [pI q] ∧ sX3_stands m (fun w m' => (∃ q, w = [pI q]) ∧ lwR x' m')) := by
  exact ix_stands h.1 (fun a x' qx => ⟨a, rfl, iv_stands h.2.1 (fun b m' qm => ⟨⟨b, rfl⟩, h.step qx qm⟩)⟩)
theorem rl_14 (h : lwR x m) (hz : ∀ j, xB (z (i + j))) : sX2_closed (z (i + 1)) x (fun v x' => ∃ q, v = [pI q] ∧ sX3_closed (z (i + 1)) m (fun w m' => (∃ q, w = [pI q]) ∧ lwR x' m')) := by
  exact ix_closed (hz 1) h.1 (fun a x' qx => ⟨a, rfl, iv_closed (hz 1) h.2.1 (fun b m' qm => ⟨⟨b, rfl⟩, h.step qx qm⟩)⟩)
theorem rl_15 (h : lwR x m) (hz : ∀ j, xB (z (i + j))) : (ofLatest (z (i + 1)) ((x.2.2 0).1 5) 40 ∧ 0 ≤ z (i + 2) ∧ z (i + 2) < 7 → sX3_finals (z (i + 1)) (z (i + 2)) m (fun w m' => (∃ q, w = [pI q]) ∧ lwR x m')) ∧ (¬ (ofLatest (z (i + 1)) ((x.2.2 0).1 5) 40 ∧ 0 ≤ z (i + 2) ∧ z (i + 2) < 7) → sX3_finals (z (i + 1)) (z (i + 2)) m (fun w m' => (∃ q, w = [pI q]) ∧ lwR x m')) := by
  exact ⟨fun _ => iv_finals (hz 1) (hz 2) h.2.1 (fun b m' qm => ⟨⟨b, rfl⟩, h.step (Ql.self h.1) qm⟩), fun _ => iv_finals (hz 1) (hz 2) h.2.1 (fun b m' qm => ⟨⟨b, rfl⟩, h.step (Ql.self h.1) qm⟩)⟩
theorem rl_16 (h : lwR x m) (hz : ∀ j, xB (z (i + j))) : sX2_kinds (z (i + 1)) x (fun v x' => ∃ q, v = [pI q] ∧ sX3_kinds (z (i + 1)) m (fun w m' => (∃ q, w = [pI q]) ∧ lwR x' m')) := by
  exact ix_kinds (hz 1) h.1 (fun a x' qx => ⟨a, rfl, iv_kinds (hz 1) h.2.1 (fun b m' qm => ⟨⟨b, rfl⟩, h.step qx qm⟩)⟩)
theorem rl_17 (h : lwR x m) (hz : ∀ j, xB (z (i + j))) : sX2_slow x (fun v x' => ∃ q, v = [pI q] ∧ sX3_slow m (fun w m' => (∃ q, w = [pI q]) ∧ lwR x' m')) := by
  exact ix_slow h.1 (fun a x' qx => ⟨a, rfl, iv_slow h.2.1 (fun b m' qm => ⟨⟨b, rfl⟩, h.step qx qm⟩)⟩)
theorem rl_18 (h : lwR x m) (hz : ∀ j, xB (z (i + j))) : sX2_span (z (i + 1)) (z (i + 2)) x (fun v x' => ∃ q, v = [pI q] ∧ sX3_span (z (i + 1)) (z (i + 2)) m (fun w m' => (∃ q, w = [pI q]) ∧ lwR x' m')) := by
  exact ix_span (hz 1) (hz 2) h.1 (fun a x' qx => ⟨a, rfl, iv_span (hz 1) (hz 2) h.2.1 (fun b m' qm => ⟨⟨b, rfl⟩, h.step qx qm⟩)⟩)
theorem rl_19 (h : lwR x m) (hz : ∀ j, xB (z (i + j))) : sX2_taken x (fun v x' => ∃ q, v = [pI q] ∧ sX3_taken m (fun w m' => (∃ q, w = [pI q]) ∧ lwR x' m')) := by
  exact ix_taken h.1 (fun a x' qx => ⟨a, rfl, iv_taken h.2.1 (fun b m' qm => ⟨⟨b, rfl⟩, h.step qx qm⟩)⟩)
theorem rl_20 (h : lwR x m) (hz : ∀ j, xB (z (i + j))) : sX2_holds x (fun v x' => ∃ q, v = [pI q] ∧ sX3_holds m (fun w m' => (∃ q, w = [pI q]) ∧ lwR x' m')) := by
  exact ix_holds h.1 (fun a x' qx => ⟨a, rfl, iv_holds h.2.1 (fun b m' qm => ⟨⟨b, rfl⟩, h.step qx qm⟩)⟩)
theorem rl_21 (h : lwR x m) (hz : ∀ j, xB (z (i + j))) : sX2_next x (fun v x' => ∃ q, v = [pI q] ∧ sX3_next m (fun w m' => (∃ q, w = [pI q]) ∧ lwR x' m')) := by
  exact ix_next h.1 (fun a x' qx => ⟨a, rfl, iv_next h.2.1 (fun b m' qm => ⟨⟨b, rfl⟩, h.step qx qm⟩)⟩)
theorem rl_22 (h : lwR x m) (hz : ∀ j, xB (z (i + j))) : sX2_ahead (z (i + 1)) x (fun v x' => ∃ q, v = [pI q] ∧ sX3_ahead (z (i + 1)) m (fun w m' => (∃ q, w = [pI q]) ∧ lwR x' m')) := by
  exact ix_ahead (hz 1) h.1 (fun a x' qx => ⟨a, rfl, iv_ahead (hz 1) h.2.1 (fun b m' qm => ⟨⟨b, rfl⟩, h.step qx qm⟩)⟩)
theorem rl_23 (h : lwR x m) (hz : ∀ j, xB (z (i + j))) : sX2_would (z (i + 1)) (z (i + 2)) (z (i + 3)) (z (i + 4)) x (fun v x' => ∃ q, v = [pI q] ∧ sX3_would (z (i + 1)) (z (i + 2)) (z (i + 3)) (z (i + 4)) m (fun w m' => (∃ q, w = [pI q]) ∧ lwR x' m')) := by
  exact ix_would (hz 1) (hz 2) (hz 3) (hz 4) h.1 (fun a x' qx => ⟨a, rfl, iv_would (hz 1) (hz 2) (hz 3) (hz 4) h.2.1 (fun b m' qm => ⟨⟨b, rfl⟩, h.step qx qm⟩)⟩)
theorem rl_24 (h : lwR x m) (hz : ∀ j, xB (z (i + j))) : sX2_batch (z (i + 1)) x (fun v x' => ∃ q, v = [pI q] ∧ sX3_batch (z (i + 1)) m (fun w m' => (∃ q, w = [pI q]) ∧ lwR x' m')) := by
  exact ix_batch (hz 1) h.1 (fun a x' qx => ⟨a, rfl, iv_batch (hz 1) h.2.1 (fun b m' qm => ⟨⟨b, rfl⟩, h.step qx qm⟩)⟩)
theorem rl_25 (h : lwR x m) (hz : ∀ j, xB (z (i + j))) : sX2_latest x (fun v x' => ∃ q, v = [pI q] ∧ sX3_latest m (fun w m' => (∃ q, w = [pI q]) ∧ lwR x' m')) := by
  exact ix_latest h.1 (fun a x' qx => ⟨a, rfl, iv_latest h.2.1 (fun b m' qm => ⟨⟨b, rfl⟩, h.step qx qm⟩)⟩)
theorem rl_26 (h : lwR x m) (hz : ∀ j, xB (z (i + j))) : sX2_parts (z (i + 1)) (z (i + 2)) x (fun v x' => ∃ q, v = [pI q] ∧ sX3_parts (z (i + 1)) (z (i + 2)) m (fun w m' => (∃ q, w = [pI q]) ∧ lwR x' m')) := by
  exact ix_parts (hz 1) (hz 2) h.1 (fun a x' qx => ⟨a, rfl, iv_parts (hz 1) (hz 2) h.2.1 (fun b m' qm => ⟨⟨b, rfl⟩, h.step qx qm⟩)⟩)
theorem rl_27 (h : lwR x m) (hz : ∀ j, xB (z (i + j))) : sX2_again (z (i + 1)) (z (i + 2)) (z (i + 3)) x (fun v x' => ∃ q, v = [pI q] ∧ sX3_again (z (i + 1)) (z (i + 2)) (z (i + 3)) m (fun w m' => (∃ q, w = [pI q]) ∧ lwR x' m')) := by
  exact ix_again (hz 1) (hz 2) (hz 3) h.1 (fun a x' qx => ⟨a, rfl, iv_again (hz 1) (hz 2) (hz 3) h.2.1 (fun b m' qm => ⟨⟨b, rfl⟩, h.step qx qm⟩)⟩)
theorem rl_28 (h : lwR x m) (hz : ∀ j, xB (z (i + j))) : sX2_without (z (i + 1)) x (fun v x' => ∃ q, v = [pI q] ∧ sX3_without (z (i + 1)) m (fun w m' => (∃ q, w = [pI q]) ∧ lwR x' m')) := by
  exact ix_without (hz 1) h.1 (fun a x' qx => ⟨a, rfl, iv_without (hz 1) h.2.1 (fun b m' qm => ⟨⟨b, rfl⟩, h.step qx qm⟩)⟩)
theorem rl_29 (h : lwR x m) (hz : ∀ j, xB (z (i + j))) : ((0 ≤ z (i + 1) ∧ z (i + 1) < wZ (x.2.2 0) 4) ∧ 0 ≤ z (i + 2) ∧ z (i + 2) ≤ 3 → sX3_input (z (i + 1)) (z (i + 2)) m (fun w m' => (∃ q, w = [pI q]) ∧ lwR x m')) ∧ (¬ ((0 ≤ z (i + 1) ∧ z (i + 1) < wZ (x.2.2 0) 4) ∧ 0 ≤ z (i + 2) ∧ z (i + 2) ≤ 3) → sX3_input (z (i + 1)) (z (i + 2)) m (fun w m' => (∃ q, w = [pI q]) ∧ lwR x m')) := by
  exact ⟨fun _ => iv_input (hz 1) (hz 2) h.2.1 (fun b m' qm => ⟨⟨b, rfl⟩, h.step (Ql.self h.1) qm⟩), fun _ => iv_input (hz 1) (hz 2) h.2.1 (fun b m' qm => ⟨⟨b, rfl⟩, h.step (Ql.self h.1) qm⟩)⟩
theorem rl_30 (h : lwR x m) (hz : ∀ j, xB (z (i + j))) : sX2_day x (fun v x' => ∃ q, v = [pI q] ∧ sX3_day m (fun w m' => (∃ q, w = [pI q]) ∧ lwR x' m')) := by
  exact ix_day h.1 (fun a x' l e4 e2 => ⟨a, rfl, iv_day h.2.1 (fun b m' I f4 f12 => ⟨⟨b, rfl⟩, l, I, e4.trans f4.symm, h.2.2.2.of e2 f12⟩)⟩)
theorem rl_31 (h : lwR x m) (hz : ∀ j, xB (z (i + j))) : sX2_undo x (fun v x' => ∃ q, v = [pI q] ∧ sX3_undo m (fun w m' => (∃ q, w = [pI q]) ∧ lwR x' m')) := by
  exact ix_undo h.1 (fun a x' qx => ⟨a, rfl, iv_undo h.2.1 (fun b m' qm => ⟨⟨b, rfl⟩, h.step qx qm⟩)⟩)
theorem rl_32 (h : lwR x m) (hz : ∀ j, xB (z (i + j))) : sX2_years (z (i + 1)) (z (i + 2)) x (fun v x' => ∃ q, v = [pI q] ∧ sX3_years (z (i + 1)) (z (i + 2)) m (fun w m' => (∃ q, w = [pI q]) ∧ lwR x' m')) := by
  exact ix_years (hz 1) (hz 2) h.1 (fun a x' qx => ⟨a, rfl, iv_years (hz 1) (hz 2) h.2.1 (fun b m' qm => ⟨⟨b, rfl⟩, h.step qx qm⟩)⟩)
theorem rl_33 (h : lwR x m) (hz : ∀ j, xB (z (i + j))) : sX2_keep (z (i + 1)) x (fun v x' => ∃ q, v = [pI q] ∧ sX3_keep (z (i + 1)) m (fun w m' => (∃ q, w = [pI q]) ∧ lwR x' m')) := by
  refine ix_keep (hz 1) h.1 (fun x' l e4 e2 => ⟨_, rfl, iv_keep (hz 1) h.2.1 (fun m' I f4 f12 => ⟨?_, l, I, ?_, kf_keep h e2 f12⟩)⟩)
  · first | exact ⟨_, rfl⟩ | rw [eq_keep (x := x)]
  · rw [e4, f4, h.2.2.1]
theorem rl_34 (h : lwR x m) (hz : ∀ j, xB (z (i + j))) : sX2_back (z (i + 1)) x (fun v x' => ∃ q, v = [pI q] ∧ sX3_back (z (i + 1)) m (fun w m' => (∃ q, w = [pI q]) ∧ lwR x' m')) := by
  refine ix_back (hz 1) h.1 (fun x' qx => ⟨_, rfl, iv_back (hz 1) h.2.1 (fun m' qm => ⟨?_, h.step qx qm⟩)⟩)
  first | exact ⟨_, rfl⟩ | rw [eq_back h]
theorem rl_35 (h : lwR x m) (hz : ∀ j, xB (z (i + j))) : sX2_count (z (i + 1)) x (fun v x' => ∃ q, v = [pI q] ∧ sX3_count (z (i + 1)) m (fun w m' => (∃ q, w = [pI q]) ∧ lwR x' m')) := by
  exact ix_count (hz 1) h.1 (fun a x' qx => ⟨a, rfl, iv_count (hz 1) h.2.1 (fun b m' qm => ⟨⟨b, rfl⟩, h.step qx qm⟩)⟩)
theorem rl_36 (h : lwR x m) (hz : ∀ j, xB (z (i + j))) : (0 ≤ z (i + 1) ∧ z (i + 1) < x.1 3 ∧ z (i + 1) < 6 → sX3_row (z (i + 1)) m (fun w m' => (∃ q, w = [pJ q]) ∧ lwR x m')) ∧ (¬ (0 ≤ z (i + 1) ∧ z (i + 1) < x.1 3 ∧ z (i + 1) < 6) → sX3_row (z (i + 1)) m (fun w m' => (∃ q, w = [pJ q]) ∧ lwR x m')) := by
  exact ⟨fun _ => iv_row (hz 1) h.2.1 (fun b m' qm => ⟨⟨b, rfl⟩, h.step (Ql.self h.1) qm⟩), fun _ => iv_row (hz 1) h.2.1 (fun b m' qm => ⟨⟨b, rfl⟩, h.step (Ql.self h.1) qm⟩)⟩
theorem rl_all (h : lwR x m) (hz : ∀ j, xB (z (i + j))) (k : Nat) : lwS z i x m lwR k := by
  match k with
  | 0 => exact rl_0 h hz
  | 1 => exact rl_1 h hz
  | 2 => exact rl_2 h hz
  | 3 => exact rl_3 h hz
  | 4 => exact rl_4 h hz
  | 5 => exact rl_5 h hz
  | 6 => exact rl_6 h hz
  | 7 => exact rl_7 h hz
  | 8 => exact rl_8 h hz
  | 9 => exact rl_9 h hz
  | 10 => exact rl_10 h hz
  | 11 => exact rl_11 h hz
  | 12 => exact rl_12 h hz
  | 13 => exact rl_13 h hz
  | 14 => exact rl_14 h hz
  | 15 => exact rl_15 h hz
  | 16 => exact rl_16 h hz
  | 17 => exact rl_17 h hz
  | 18 => exact rl_18 h hz
  | 19 => exact rl_19 h hz
  | 20 => exact rl_20 h hz
  | 21 => exact rl_21 h hz
  | 22 => exact rl_22 h hz
  | 23 => exact rl_23 h hz
  | 24 => exact rl_24 h hz
  | 25 => exact rl_25 h hz
  | 26 => exact rl_26 h hz
  | 27 => exact rl_27 h hz
  | 28 => exact rl_28 h hz
  | 29 => exact rl_29 h hz
  | 30 => exact rl_30 h hz
  | 31 => exact rl_31 h hz
  | 32 => exact rl_32 h hz
  | 33 => exact rl_33 h hz
  | 34 => exact rl_34 h hz
  | 35 => exact rl_35 h hz
  | 36 => exact rl_36 h hz
  | k + 37 => exact h
end RL
theorem inv1 : Inv m1 := by
  obtain ⟨a, b, c⟩ := starts_ok (s := m0) (d := 0) (n := 1) (g := 10) (l := 5) (e := 0) (by decide) (by decide)
  have e := b.2
  refine ⟨?_, ?_, ?_, a, fun i _ _ hi => ?_, fun k k0 k1 => ?_⟩
  · rw [show m1.1 4 = 0 from e.1 4 (by decide) (by decide) (by decide)]; decide
  · rw [show m1.1 8 = 0 from e.1 8 (by decide) (by decide) (by decide)]; decide
  · rw [show m1.1 1 = 0 from e.1 1 (by decide) (by decide) (by decide)]; decide
  · rw [show m1.2 12 = fun _ => 0 from e.2 12 (by decide) (by decide)] at hi
    exact absurd rfl hi
  · rw [show m1.1 8 = 0 from e.1 8 (by decide) (by decide) (by decide)] at k1
    omega
theorem w1_okR : wok w1 := by decide +kernel
theorem lok1R : lok s1 := ⟨⟨⟨by decide, by decide⟩, by decide, by decide⟩, ⟨by decide, by decide⟩, ⟨by decide, by decide⟩, fun _ _ => w1_okR⟩
theorem lwR1 : lwR s1 m1 := by
  obtain ⟨-, b, -⟩ := starts_ok (s := m0) (d := 0) (n := 1) (g := 10) (l := 5) (e := 0) (by decide) (by decide)
  have e12 : m1.2 12 = fun _ => 0 := b.2.2 12 (by decide) (by decide)
  have e4 : m1.1 4 = 0 := b.2.1 4 (by decide) (by decide) (by decide)
  refine ⟨lok1R, inv1, by rw [e4]; rfl, ?_⟩
  unfold kfR
  rw [e12]
  exact ⟨Or.inl rfl, Or.inl rfl, rfl⟩
