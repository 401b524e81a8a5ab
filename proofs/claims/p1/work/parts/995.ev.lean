/-! ===== the fresh state, by numbers ===== -/
theorem w1_Z0 : wZ w1 0 = 1 := by decide +kernel
theorem w1_Z1 : wZ w1 1 = 0 := by decide +kernel
theorem w1_Z2 : wZ w1 2 = 0 := by decide +kernel
theorem w1_Z3 : wZ w1 3 = 0 := by decide +kernel
theorem w1_Z4 : wZ w1 4 = 0 := by decide +kernel
theorem w1_Z5 : wZ w1 5 = 6 := by decide +kernel
theorem w1_f : ∀ k, k < 10 → w1.1 k = [10, 5, 0, 0, 0, 0, 0, 0, 0, 0].getD k 0 := by decide +kernel
theorem w1_k : ∀ k, k < 6 → ∀ c, c < 8 → (w1.2 5).2 (k * 8 + c) = (if c = 7 then -1 else 0) := by decide +kernel
theorem w1_sr : ∀ c, c < 5 → (w1.2 0).2 c = [0, 20, 0, 0, 0].getD c 0 := by decide +kernel
theorem w1_ok : wok w1 := by decide +kernel
theorem lok1 : lok s1 := ⟨⟨⟨by decide, by decide⟩, by decide, by decide⟩, ⟨by decide, by decide⟩, ⟨by decide, by decide⟩, fun _ _ => w1_ok⟩
theorem m1_c : ∀ k, k < 84 → m1.2 3 k = (if k = 0 then 1 else if k = 1 then 10 else if k = 2 then 5 else if 16 ≤ k ∧ k < 20 then 20 else if 54 ≤ k ∧ k < 60 then -1 else 0) := by decide +kernel
theorem m1_g : ∀ k : Nat, k < 84 → mg m1 (k : Int) = (if k = 0 then 1 else if k = 1 then 10 else if k = 2 then 5 else if 16 ≤ k ∧ k < 20 then 20 else if 54 ≤ k ∧ k < 60 then -1 else 0) := m1_c
theorem m1_0 : mg m1 0 = 1 := m1_c 0 (by decide)
theorem m1_n : mg m1 (0 * 2804 + 0) = 1 := m1_c 0 (by decide)
theorem m1_4 : mg m1 (0 * 2804 + 4) = 0 := m1_c 4 (by decide)
theorem m1_5 : mg m1 (0 * 2804 + 5) = 0 := m1_c 5 (by decide)
theorem m1_6 : mg m1 (0 * 2804 + 6) = 0 := m1_c 6 (by decide)
theorem m1_7 : mg m1 (0 * 2804 + 7) = 0 := m1_c 7 (by decide)
theorem ev_q {a b : Int} (h : b = a) : [pI b] = [pI a] ∧ True := ⟨by rw [h], trivial⟩
theorem ite1 {α : Type} {p q : Prop} [Decidable p] [Decidable q] {a b c d : Int × α} {β : Type} {a' b' : Int × β} (h : p ↔ q) (h1 : p → a.1 = a'.1) (h2 : ¬ p → b.1 = b'.1) : (if p then a else b).1 = (if q then a' else b').1 := by
  by_cases hp : p
  · rw [if_pos hp, if_pos (h.mp hp)]; exact h1 hp
  · rw [if_neg hp, if_neg (fun hq => hp (h.mpr hq))]; exact h2 hp
theorem src1 {r : Int} : lSrc s1 r ↔ r = 0 := by
  show 0 ≤ r ∧ r < wZ w1 0 ↔ _
  rw [w1_Z0]; omega
theorem msrc1 {r : Int} : mSrc m1 r ↔ r = 0 := by
  show 0 ≤ r ∧ r < mg m1 0 ↔ _
  rw [m1_0]; omega
theorem toN {P : Int → Prop} (n : Nat) (h : ∀ k : Nat, k < n → P (k : Int)) {a : Int} (h0 : 0 ≤ a) (h1 : a < n) : P a := by
  have e := h a.toNat (by omega)
  rw [show ((a.toNat : Nat) : Int) = a by omega] at e
  exact e
theorem ev_0 {a b c d : Int} (ha : xB a) (hb : xB b) (hc : xB c) (hd : xB d) : sX2_sign a s1 (fun v _ => ∃ q, v = [pI q] ∧ sX3_sign a m1 (fun w _ => w = [pI q] ∧ True)) :=
  ⟨⟨ha, lok1⟩, _, rfl, ⟨by decide, by decide⟩, ev_q rfl⟩
theorem ev_1 {a b c d : Int} (ha : xB a) (hb : xB b) (hc : xB c) (hd : xB d) : sX2_end a s1 (fun v _ => ∃ q, v = [pI q] ∧ sX3_end a m1 (fun w _ => w = [pI q] ∧ True)) :=
  ⟨ha, _, rfl, ha, ev_q (ite1 (c := (0, m1)) (d := (0, m1)) Iff.rfl (fun _ => rfl) (fun _ => rfl))⟩
theorem ev_2 {a b c d : Int} (ha : xB a) (hb : xB b) (hc : xB c) (hd : xB d) : sX2_start a b c d s1 (fun v _ => ∃ q, v = [pI q] ∧ sX3_start a b c d m1 (fun w _ => w = [pI q] ∧ True)) :=
  ⟨⟨ha, hb, hc, hd, lok1⟩, _, rfl, ⟨⟨ha, hb, hc, hd⟩, by decide, by decide⟩, ev_q (ite1 (c := (0, m1)) (d := (0, m1)) Iff.rfl (fun _ => rfl) (fun _ => rfl))⟩
theorem ev_3 {a b c d : Int} (ha : xB a) (hb : xB b) (hc : xB c) (hd : xB d) : sX2_delays a b s1 (fun v _ => ∃ q, v = [pI q] ∧ sX3_delays a b m1 (fun w _ => w = [pI q] ∧ True)) := by
  refine ⟨⟨ha, hb, lok1⟩, _, rfl, ⟨⟨ha, hb⟩, ⟨by rw [m1_0]; decide, by rw [m1_0]; decide⟩, by decide, by decide⟩, ev_q (ite1 (c := (0, m1)) (d := (0, m1)) ⟨fun h => ⟨src1.mpr (msrc1.mp h.1), h.2⟩, fun h => ⟨msrc1.mpr (src1.mp h.1), h.2⟩⟩ (fun h => ?_) (fun _ => rfl))⟩
  have := msrc1.mp h.1
  subst this
  refine ite1 (c := (0, m1)) (d := (0, m1)) ?_ (fun _ => rfl) (fun _ => ?_)
  · rw [show mg m1 (16 + 0) = 20 from m1_c 16 (by decide), show wG (s1.2.2 0) 0 0 1 = 20 from w1_sr 1 (by decide)]
  · have e6 : ¬ 0 < mg m1 6 := by rw [show mg m1 6 = 0 from m1_c 6 (by decide)]; decide
    have e4 : ¬ 0 < wZ (s1.2.2 0) 4 := by rw [show wZ (s1.2.2 0) 4 = 0 from w1_Z4]; decide
    rw [if_neg e6, if_neg e4]
    show mg m1 (16 + 0) = wG (s1.2.2 0) 0 0 1
    rw [show mg m1 (16 + 0) = 20 from m1_c 16 (by decide), show wG (s1.2.2 0) 0 0 1 = 20 from w1_sr 1 (by decide)]
theorem ev_5 {a b c d : Int} (ha : xB a) (hb : xB b) (hc : xB c) (hd : xB d) : sX2_events0 s1 (fun v _ => ∃ q, v = [pI q] ∧ sX3_events0 m1 (fun w _ => w = [pI q] ∧ True)) :=
  ⟨⟨rfl, by rw [show wZ (s1.2.2 0) 4 = 0 from w1_Z4]; decide⟩, _, rfl, ⟨rfl, by rw [show nIn m1 = 0 from m1_6]; decide⟩, ev_q rfl⟩
theorem ev_30 {a b c d : Int} (ha : xB a) (hb : xB b) (hc : xB c) (hd : xB d) : sX2_day0 s1 (fun v _ => ∃ q, v = [pI q] ∧ sX3_day0 m1 (fun w _ => w = [pI q] ∧ True)) :=
  ⟨rfl, _, rfl, rfl, ev_q rfl⟩
theorem ev_31 {a b c d : Int} (ha : xB a) (hb : xB b) (hc : xB c) (hd : xB d) : sX2_undo s1 (fun v _ => ∃ q, v = [pI q] ∧ sX3_undo m1 (fun w _ => w = [pI q] ∧ True)) :=
  ⟨lok1, _, rfl, ⟨by decide, by decide⟩, ev_q rfl⟩
theorem ev_33 {a b c d : Int} (ha : xB a) (hb : xB b) (hc : xB c) (hd : xB d) : sX2_keep a s1 (fun v _ => ∃ q, v = [pI q] ∧ sX3_keep a m1 (fun w _ => w = [pI q] ∧ True)) :=
  ⟨⟨ha, lok1⟩, _, rfl, ha, ev_q (ite1 (c := (0, m1)) (d := (0, m1)) (by show 0 ≤ a ∧ a ≤ 1 ↔ _; omega) (fun _ => rfl) (fun _ => rfl))⟩
theorem ev_34 {a b c d : Int} (ha : xB a) (hb : xB b) (hc : xB c) (hd : xB d) : sX2_back a s1 (fun v _ => ∃ q, v = [pI q] ∧ sX3_back a m1 (fun w _ => w = [pI q] ∧ True)) := by
  refine ⟨⟨ha, lok1⟩, _, rfl, ha, ev_q ?_⟩
  have e1 : (gBack m1 a).1 = 0 := by
    unfold gBack
    rw [if_neg (fun h => h.2 rfl)]
  have e2 : (fBack s1 a).1 = 0 := by
    unfold fBack
    have e3 : (iI (s1.1 2) &&& iI (bitOf a)).toInt = 0 := by
      show (iI 0 &&& _).toInt = 0
      rw [show iI 0 = 0 from rfl, Int32.zero_and]
      rfl
    rw [if_neg (fun h => h.2 e3)]
  rw [e1, e2]
theorem ev_19 {a b c d : Int} (ha : xB a) (hb : xB b) (hc : xB c) (hd : xB d) : sX2_taken s1 (fun v _ => ∃ q, v = [pI q] ∧ sX3_taken m1 (fun w _ => w = [pI q] ∧ True)) :=
  ⟨_, rfl, ev_q (by show mg m1 8 = w1.1 6; rw [show mg m1 8 = 0 from m1_c 8 (by decide), w1_f 6 (by decide)]; rfl)⟩
theorem ev_35 {a b c d : Int} (ha : xB a) (hb : xB b) (hc : xB c) (hd : xB d) : sX2_count a s1 (fun v _ => ∃ q, v = [pI q] ∧ sX3_count a m1 (fun w _ => w = [pI q] ∧ True)) := by
  refine ⟨ha, _, rfl, ha, ev_q ?_⟩
  by_cases h : 0 ≤ a ∧ a ≤ 10
  · have : ∀ k : Nat, k < 11 → gCount m1 (k : Int) = fCount s1 (k : Int) := by decide +kernel
    have e := this a.toNat (by omega)
    rw [show ((a.toNat : Nat) : Int) = a by omega] at e
    exact e
  · unfold gCount fCount
    simp only []
    repeat rw [if_neg (by omega)]
theorem ev_8 {a b c d : Int} (ha : xB a) (hb : xB b) (hc : xB c) (hd : xB d) : (lSrc s1 a ∧ 0 ≤ b ∧ b ≤ 5 → sX3_source a b m1 (fun w m' => w = [pI (fSource s1 a b)] ∧ m'.1 0 = 0 ∧ True)) ∧ (¬ (lSrc s1 a ∧ 0 ≤ b ∧ b ≤ 5) → sX3_source a b m1 (fun w m' => (∃ q, w = [pI q]) ∧ m'.1 0 = 1 ∧ True)) := by
  have hm : mok1 m1 := by show 0 ≤ mg m1 0 ∧ mg m1 0 ≤ 4; rw [m1_0]; decide
  refine ⟨fun h => ⟨⟨⟨ha, hb⟩, hm⟩, ?_⟩, fun h => ⟨⟨⟨ha, hb⟩, hm⟩, ?_⟩⟩
  · have h0 := src1.mp h.1
    subst h0
    unfold gSource
    rw [if_pos ⟨msrc1.mpr rfl, h.2⟩]
    exact ⟨by show [pI (gSrcA m1 0 b)] = _; rw [toN (P := fun b => gSrcA m1 0 b = fSource s1 0 b) 6 (by decide +kernel) h.2.1 (by omega)], rfl, trivial⟩
  · unfold gSource
    rw [if_neg (fun q => h ⟨src1.mpr (msrc1.mp q.1), q.2⟩)]
    exact ⟨⟨_, rfl⟩, rfl, trivial⟩
theorem ev_9 {a b c d : Int} (ha : xB a) (hb : xB b) (hc : xB c) (hd : xB d) : ((0 ≤ a ∧ a < wZ (s1.2.2 0) 1) ∧ 0 ≤ b ∧ b ≤ 7 → sX3_session a b m1 (fun w m' => w = [pI (fSession s1 a b)] ∧ m'.1 0 = 0 ∧ True)) ∧ (¬ ((0 ≤ a ∧ a < wZ (s1.2.2 0) 1) ∧ 0 ≤ b ∧ b ≤ 7) → sX3_session a b m1 (fun w m' => (∃ q, w = [pI q]) ∧ m'.1 0 = 1 ∧ True)) := by
  refine ⟨fun h => ?_, fun h => ⟨⟨⟨ha, hb⟩, by rw [m1_5]; decide, by rw [m1_5]; decide⟩, ?_⟩⟩
  · have := h.1
    rw [show wZ (s1.2.2 0) 1 = 0 from w1_Z1] at this
    omega
  · unfold gSession
    rw [m1_5, show wI (0 - 1) = -1 from by decide, if_neg (fun q => by have := q.1; omega)]
    exact ⟨⟨_, rfl⟩, rfl, trivial⟩
theorem ev_11 {a b c d : Int} (ha : xB a) (hb : xB b) (hc : xB c) (hd : xB d) : (ofLatest a ((s1.2.2 0).1 4) 60 ∧ 0 ≤ b ∧ b < 6 → sX3_message a b m1 (fun w m' => w = [pI (fMessage s1 a b)] ∧ m'.1 0 = 0 ∧ True)) ∧ (¬ (ofLatest a ((s1.2.2 0).1 4) 60 ∧ 0 ≤ b ∧ b < 6) → sX3_message a b m1 (fun w m' => (∃ q, w = [pI q]) ∧ m'.1 0 = 1 ∧ True)) := by
  refine ⟨fun h => ?_, fun h => ⟨⟨ha, hb⟩, ?_⟩⟩
  · have := h.1
    rw [show (s1.2.2 0).1 4 = 0 from w1_f 4 (by decide)] at this
    omega
  · unfold gMessage
    rw [m1_7, show wI (0 - 1) = -1 from by decide, if_neg (fun q => by have := q.1; omega)]
    exact ⟨⟨_, rfl⟩, rfl, trivial⟩
theorem ev_15 {a b c d : Int} (ha : xB a) (hb : xB b) (hc : xB c) (hd : xB d) : (ofLatest a ((s1.2.2 0).1 5) 40 ∧ 0 ≤ b ∧ b < 7 → sX3_finals a b m1 (fun w m' => w = [pI (fFinals s1 a b)] ∧ m'.1 0 = 0 ∧ True)) ∧ (¬ (ofLatest a ((s1.2.2 0).1 5) 40 ∧ 0 ≤ b ∧ b < 7) → sX3_finals a b m1 (fun w m' => (∃ q, w = [pI q]) ∧ m'.1 0 = 1 ∧ True)) := by
  refine ⟨fun h => ?_, fun h => ⟨⟨ha, hb⟩, ?_⟩⟩
  · have := h.1
    rw [show (s1.2.2 0).1 5 = 0 from w1_f 5 (by decide)] at this
    omega
  · unfold gFinals
    rw [show mClosed m1 0 = 0 from by decide +kernel, show wI (0 - 1) = -1 from by decide, if_neg (fun q => by have := q.1; omega)]
    exact ⟨⟨_, rfl⟩, rfl, trivial⟩
theorem ev_29 {a b c d : Int} (ha : xB a) (hb : xB b) (hc : xB c) (hd : xB d) : ((0 ≤ a ∧ a < wZ (s1.2.2 0) 4) ∧ 0 ≤ b ∧ b ≤ 3 → sX3_input a b m1 (fun w m' => w = [pI (fInput s1 a b)] ∧ m'.1 0 = 0 ∧ True)) ∧ (¬ ((0 ≤ a ∧ a < wZ (s1.2.2 0) 4) ∧ 0 ≤ b ∧ b ≤ 3) → sX3_input a b m1 (fun w m' => (∃ q, w = [pI q]) ∧ m'.1 0 = 1 ∧ True)) := by
  refine ⟨fun h => ?_, fun h => ⟨⟨⟨ha, hb⟩, by rw [m1_6]; decide, by rw [m1_6]; decide⟩, ?_⟩⟩
  · have := h.1
    rw [show wZ (s1.2.2 0) 4 = 0 from w1_Z4] at this
    omega
  · unfold gInput
    rw [m1_6, show wI (0 - 1) = -1 from by decide, if_neg (fun q => by have := q.1; omega)]
    exact ⟨⟨_, rfl⟩, rfl, trivial⟩
theorem ev_36 {a b c d : Int} (ha : xB a) (hb : xB b) (hc : xB c) (hd : xB d) : (0 ≤ a ∧ a < s1.1 3 ∧ a < 6 → sX3_row a m1 (fun w m' => w = [.inr (.inl (fRow s1 a))] ∧ m'.1 0 = 0 ∧ True)) ∧ (¬ (0 ≤ a ∧ a < s1.1 3 ∧ a < 6) → sX3_row a m1 (fun w m' => (∃ q, w = [pJ q]) ∧ m'.1 0 = 1 ∧ True)) := by
  refine ⟨fun h => ?_, fun h => ⟨⟨ha, by decide, by decide⟩, ?_⟩⟩
  · have h2 : a < 0 := h.2.1
    omega
  · unfold gRow
    rw [show wI (m1.1 1 - 1) = -1 from by decide, if_neg (fun q => by have := q; omega)]
    exact ⟨⟨_, rfl⟩, rfl, trivial⟩
theorem ev_10 {a b c d : Int} (ha : xB a) (hb : xB b) (hc : xB c) (hd : xB d) : sX2_at a b s1 (fun v _ => ∃ q, v = [pI q] ∧ sX3_at a b m1 (fun w _ => w = [pI q] ∧ True)) := by
  refine ⟨⟨ha, hb⟩, _, rfl, ⟨⟨ha, hb⟩, by rw [m1_5]; decide, by rw [m1_5]; decide⟩, ev_q (ite1 (c := (0, m1)) (d := (0, m1)) (by show (0 ≤ a ∧ a ≤ 5) ∧ (0 ≤ b ∧ b ≤ 9999) ↔ _; omega) (fun h => ?_) (fun _ => rfl))⟩
  have e : wFirst (s1.2.2 0) a b = -1 := by
    unfold wFirst
    rw [show wZ (s1.2.2 0) 1 = 0 from w1_Z1]; rfl
  rw [if_pos (by rw [e]; decide), m1_5]
  rfl
theorem ev_12 {a b c d : Int} (ha : xB a) (hb : xB b) (hc : xB c) (hd : xB d) : sX2_sent a s1 (fun v _ => ∃ q, v = [pI q] ∧ sX3_sent a m1 (fun w _ => w = [pI q] ∧ True)) := by
  refine ⟨ha, _, rfl, ha, ev_q (ite1 (c := (0, m1)) (d := (0, m1)) (by show 0 ≤ a ∧ a ≤ 3 ↔ _; omega) (fun h => ?_) (fun _ => rfl))⟩
  exact toN (P := fun a => mg m1 (0 * 2804 + (32 + a)) = wSentOf (s1.2.2 0) a) 4 (by decide +kernel) h.1 (by omega)
theorem ev_13 {a b c d : Int} (ha : xB a) (hb : xB b) (hc : xB c) (hd : xB d) : sX2_stands s1 (fun v _ => ∃ q, v = [pI q] ∧ sX3_stands m1 (fun w _ => w = [pI q] ∧ True)) :=
  ⟨_, rfl, ⟨by rw [m1_5]; decide, by rw [m1_5]; decide⟩, ev_q (by decide +kernel)⟩
theorem ev_14 {a b c d : Int} (ha : xB a) (hb : xB b) (hc : xB c) (hd : xB d) : sX2_closed a s1 (fun v _ => ∃ q, v = [pI q] ∧ sX3_closed a m1 (fun w _ => w = [pI q] ∧ True)) := by
  refine ⟨ha, _, rfl, ha, ev_q (ite1 (c := (0, m1)) (d := (0, m1)) Iff.rfl (fun h => ?_) (fun _ => rfl))⟩
  exact toN (P := fun a => mg m1 (0 * 2804 + (36 + a)) = wG (s1.2.2 0) 5 a 4) 6 (by decide +kernel) h.1 (by omega)
theorem ev_16 {a b c d : Int} (ha : xB a) (hb : xB b) (hc : xB c) (hd : xB d) : sX2_kinds a s1 (fun v _ => ∃ q, v = [pI q] ∧ sX3_kinds a m1 (fun w _ => w = [pI q] ∧ True)) := by
  refine ⟨ha, _, rfl, ha, ev_q (ite1 (c := (0, m1)) (d := (0, m1)) Iff.rfl (fun h => ?_) (fun _ => rfl))⟩
  exact toN (P := fun a => (gKn2 (knM a 4 0 0 0 (mS (mS m1 0 0) 1 0))).1 = (fKinds2 (knL a 4 0 0 (setS s1 3 0)).2 a (knL a 4 0 0 (setS s1 3 0)).1).1) 6 (by decide +kernel) h.1 (by omega)
theorem ev_17 {a b c d : Int} (ha : xB a) (hb : xB b) (hc : xB c) (hd : xB d) : sX2_slow s1 (fun v _ => ∃ q, v = [pI q] ∧ sX3_slow m1 (fun w _ => w = [pI q] ∧ True)) :=
  ⟨_, rfl, ⟨⟨by rw [m1_n]; decide, by rw [m1_n]; decide⟩, by rw [m1_5]; decide, by rw [m1_5]; decide⟩, ev_q (by decide +kernel)⟩
theorem ev_20 {a b c d : Int} (ha : xB a) (hb : xB b) (hc : xB c) (hd : xB d) : sX2_holds s1 (fun v _ => ∃ q, v = [pI q] ∧ sX3_holds m1 (fun w _ => w = [pI q] ∧ True)) :=
  ⟨_, rfl, ⟨by rw [m1_n]; decide, by rw [m1_n]; decide⟩, ev_q (by decide +kernel)⟩
theorem ev_21 {a b c d : Int} (ha : xB a) (hb : xB b) (hc : xB c) (hd : xB d) : sX2_next s1 (fun v _ => ∃ q, v = [pI q] ∧ sX3_next m1 (fun w _ => w = [pI q] ∧ True)) :=
  ⟨_, rfl, ⟨by rw [m1_5]; decide, by rw [m1_5]; decide⟩, ev_q (by decide +kernel)⟩
theorem ev_22 {a b c d : Int} (ha : xB a) (hb : xB b) (hc : xB c) (hd : xB d) : sX2_ahead a s1 (fun v _ => ∃ q, v = [pI q] ∧ sX3_ahead a m1 (fun w _ => w = [pI q] ∧ True)) := by
  refine ⟨ha, _, rfl, ⟨ha, by rw [m1_5]; decide, by rw [m1_5]; decide⟩, ev_q (ite1 (c := (0, m1)) (d := (0, m1)) Iff.rfl (fun h => ?_) (fun _ => rfl))⟩
  have h2 : 0 ≤ a ∧ a ≤ 20000 := h
  have e1 : ¬ a < mg (mS m1 0 0) (0 * 2804 + 4) := by rw [show mg (mS m1 0 0) (0 * 2804 + 4) = 0 from m1_4]; omega
  have e2 : ¬ a < (s1.2.2 0).1 3 := by rw [show (s1.2.2 0).1 3 = 0 from w1_f 3 (by decide)]; omega
  rw [if_neg e1, if_neg e2, show mg (mS m1 0 0) (0 * 2804 + 5) = 0 from m1_5]
  show 0 = wRipening (s1.2.2 0) a
  unfold wRipening
  rw [show wZ (s1.2.2 0) 1 = 0 from w1_Z1]
  rfl
theorem ev_25 {a b c d : Int} (ha : xB a) (hb : xB b) (hc : xB c) (hd : xB d) : sX2_latest s1 (fun v _ => ∃ q, v = [pI q] ∧ sX3_latest m1 (fun w _ => w = [pI q] ∧ True)) :=
  ⟨_, rfl, 0, 0, by show nIn (gLatS m1) ≤ 0; rw [show nIn (gLatS m1) = 0 from by decide +kernel]; decide, ev_q (by decide +kernel)⟩
theorem ev_28 {a b c d : Int} (ha : xB a) (hb : xB b) (hc : xB c) (hd : xB d) : sX2_without a s1 (fun v _ => ∃ q, v = [pI q] ∧ sX3_without a m1 (fun w _ => w = [pI q] ∧ True)) := by
  have hm : mok1 m1 := by show 0 ≤ mg m1 0 ∧ mg m1 0 ≤ 4; rw [m1_0]; decide
  refine ⟨⟨ha, lok1⟩, _, rfl, ⟨ha, hm⟩, fun h => ev_q ?_, fun h => ⟨fun _ => ev_q ?_, fun q => absurd m1_n q⟩⟩
  · unfold fWithout
    rw [if_neg (fun q => h (msrc1.mpr (src1.mp q)))]
  · unfold fWithout
    rw [if_pos (src1.mpr (msrc1.mp h)), if_pos (show wZ (s1.2.2 0) 0 = 1 from w1_Z0)]
theorem ev_18 {a b c d : Int} (ha : xB a) (hb : xB b) (hc : xB c) (hd : xB d) : sX2_span a b s1 (fun v _ => ∃ q, v = [pI q] ∧ sX3_span a b m1 (fun w _ => w = [pI q] ∧ True)) := by
  have g : ∀ (m : MS) k f t x, nIn m = 0 → gSpN m k f t 160 0 0 x = (0, x) := fun m k f t x h => by
    show (if nIn m ≤ 0 then ((0 : Int), x) else _) = _
    rw [if_pos (by rw [h]; decide)]
  have hn : nIn (mS m1 0 0) = 0 := m1_6
  have e : (wZ (s1.2.2 0) 4).toNat = 0 := by rw [show wZ (s1.2.2 0) 4 = 0 from w1_Z4]; rfl
  have hc : inB a 0 9999 ∧ inB b a 9999 ↔ (0 ≤ a ∧ a ≤ 9999) ∧ (0 ≤ b ∧ b ≤ 9999) ∧ a ≤ b := by
    show (0 ≤ a ∧ a ≤ 9999) ∧ (a ≤ b ∧ b ≤ 9999) ↔ _
    omega
  refine ⟨⟨ha, hb⟩, _, rfl, ⟨⟨ha, hb⟩, by rw [show nIn m1 = 0 from m1_6]; decide⟩, fun h => ev_q ?_, fun h => ev_q ?_⟩
  · unfold fSpan
    rw [if_neg (fun q => h (hc.mpr q))]
  · unfold fSpan
    rw [if_pos (hc.mp h)]
    simp only [gSpO, g _ _ _ _ _ hn, fSpan2, spO, e, spI]
theorem ev_24 {a b c d : Int} (ha : xB a) (hb : xB b) (hc : xB c) (hd : xB d) : sX2_batch a s1 (fun v _ => ∃ q, v = [pI q] ∧ sX3_batch a m1 (fun w _ => w = [pI q] ∧ True)) := by
  have es : lSort s1 a = (0, s1) := by
    unfold lSort
    rw [show wZ (s1.2.2 0) 4 = 0 from w1_Z4]; rfl
  refine ⟨⟨ha, lok1⟩, _, rfl, ⟨ha, by rw [show nIn m1 = 0 from m1_6]; decide⟩, fun h => ev_q ?_, fun h => ev_q ?_⟩
  · unfold fBatch
    rw [if_neg h]
  · unfold fBatch
    rw [if_pos h, es]
    have el : gLt (mS m1 0 0) a = mS (mS m1 0 0) 19 0 := by
      show ltO a (159 + 1) 0 (mS (mS m1 0 0) 19 0) = _
      rw [ltO, if_pos (by rw [show nIn (mS (mS m1 0 0) 19 0) = 0 from m1_6]; decide)]
    rw [el]
    decide +kernel
theorem ev_26 {a b c d : Int} (ha : xB a) (hb : xB b) (hc : xB c) (hd : xB d) : sX2_parts a b s1 (fun v _ => ∃ q, v = [pI q] ∧ sX3_parts a b m1 (fun w _ => w = [pI q] ∧ True)) := by
  have es : lSort s1 a = (0, s1) := by
    unfold lSort
    rw [show wZ (s1.2.2 0) 4 = 0 from w1_Z4]; rfl
  refine ⟨⟨ha, hb, lok1⟩, _, rfl, ⟨⟨ha, hb⟩, by rw [show nIn m1 = 0 from m1_6]; decide⟩, fun h => ev_q ?_, fun h => ev_q ?_⟩
  · unfold fParts
    rw [if_neg h]
  · unfold fParts
    rw [if_pos h, es]
    have el : gLt (mS m1 0 0) a = mS (mS m1 0 0) 19 0 := by
      show ltO a (159 + 1) 0 (mS (mS m1 0 0) 19 0) = _
      rw [ltO, if_pos (by rw [show nIn (mS (mS m1 0 0) 19 0) = 0 from m1_6]; decide)]
    rw [el]
    have h1 : 1 ≤ b := h.2.1
    have f0 : ∀ g, fiN (mS (mS m1 0 0) 19 0) g 160 0 0 = 0 := fun g => by
      show (if (0 : Int) ≤ 0 then (0 : Int) else _) = 0
      rw [if_pos (by decide)]
    have p0 : ∀ m, paN (mS (mS m1 0 0) 19 0) b m = -2 := by
      intro m
      induction m with
      | zero => rfl
      | succ m ih =>
        unfold paN
        rw [f0, if_neg (by omega)]
        exact ih
    rw [p0]
    rfl
theorem ev_27 {a b c d : Int} (ha : xB a) (hb : xB b) (hc : xB c) (hd : xB d) : sX2_again a b c s1 (fun v _ => ∃ q, v = [pI q] ∧ sX3_again a b c m1 (fun w _ => w = [pI q] ∧ True)) := by
  refine ⟨⟨ha, hb, hc, lok1⟩, _, rfl, ⟨ha, hb, hc⟩, fun h => ev_q ?_, fun h => ⟨0, 0, ?_, ev_q ?_⟩⟩
  · unfold fAgain
    rw [if_neg h]
  · show nIn (mStartA (mS m1 0 0) a b c) ≤ 0
    rw [show nIn (mStartA (mS m1 0 0) a b c) = 0 from rfl]
    decide
  · unfold fAgain
    rw [if_pos h]
    rfl
