/-! ===== what holds at the law's entry ===== -/
def st_tm (j : Nat) : Term := .string (xl_sc j).1 (xl_sc j).2.1
theorem st_ex : ∀ i, i < 9 → Cond.exactly (st_tm i) "java/lang/String" ∈ flatC (Jvm.Cond.and given_1 narrow_1) := by decide +kernel
theorem st_co : ∀ i, i < 9 → Cond.eq (.field (st_tm i) "java/lang/String" "coder" "B") (.int 0) ∈ flatC (Jvm.Cond.and given_1 narrow_1) := by decide +kernel
theorem st_ar : ∀ i, i < 9 → Cond.arrayOf (.field (st_tm i) "java/lang/String" "value" "[B") .byte ∈ flatC (Jvm.Cond.and given_1 narrow_1) := by decide +kernel
theorem st_le : ∀ i, i < 9 → Cond.eq (.length (.field (st_tm i) "java/lang/String" "value" "[B")) (.int (Int32.ofNat (xl_sl.getD i 0))) ∈ flatC (Jvm.Cond.and given_1 narrow_1) := by decide +kernel
theorem st_el : ∀ i, i < 9 → ∀ j, j < xl_sl.getD i 0 → Cond.eq (.elem (.field (st_tm i) "java/lang/String" "value" "[B") (.int (Int32.ofNat j))) (.int ((xl_sb.getD i []).getD j 0)) ∈ flatC (Jvm.Cond.and given_1 narrow_1) := by decide +kernel
theorem st_ne : ∀ i, i < 9 → ∀ j, j < 9 → i ≠ j → Cond.not (Cond.eq (st_tm i) (st_tm j)) ∈ flatC (Jvm.Cond.and given_1 narrow_1) ∨ Cond.not (Cond.eq (st_tm j) (st_tm i)) ∈ flatC (Jvm.Cond.and given_1 narrow_1) := by decide +kernel
theorem st_sr : ∀ i, i < 9 → Cond.stringRef (xl_sc i).1 (xl_sc i).2.1 (xl_sc i).2.2 ∈ lw_tbl := by decide +kernel
theorem st_K {args : Array Value} {s : State} (hts : ∀ w ∈ lw_tbl, w.before args s = true) : ∃ (D : va_G) (aC : Nat → ClassId), va_K D vwCl (xl_ty aC) s ∧ xn_A aC s := by
  have hT : ∀ w ∈ xl_T, w.before args s = true := fun w hw => hts w (List.mem_filter.mp hw).1
  obtain ⟨c0, i0, k0⟩ := u_known hT xl_inX0 (hT _ inX0)
  obtain ⟨c1, i1, k1⟩ := u_known hT xl_inX1 (hT _ inX1)
  obtain ⟨c2, i2, k2⟩ := u_known hT xl_inX2 (hT _ inX2)
  obtain ⟨c3, i3, k3⟩ := u_known hT xl_inX3 (hT _ inX3)
  obtain ⟨a0, ka0, co0, p0, q0, r0⟩ := Cond.arrayClass_spec (hT _ ac_i)
  obtain ⟨a1, ka1, co1, p1, q1, r1⟩ := Cond.arrayClass_spec (hT _ ac_l)
  obtain ⟨a2, ka2, co2, p2, q2, r2⟩ := Cond.arrayClass_spec (hT _ ac_z)
  have hAO : (Cond.arrayOver (.object RX1)).before args s = true := hts _ (List.mem_of_getElem? (i := 233) (by decide +kernel))
  obtain ⟨co3, a3, ka3, f1, f2, f3, f4, f5⟩ := Cond.arrayOver_spec hAO
  refine ⟨(fun c => [c0, c1, c2, c3].getD c c0, fun c => [i0, i1, i2, i3].getD c i0), fun k => [a0, a1, a2, a3].getD k a0, ⟨?_, ?_⟩, ?_, va_AO.of hAO⟩
  · intro c q hq
    match c, hq with
    | 0, hq => cases hq; exact k0
    | 1, hq => cases hq; exact k1
    | 2, hq => cases hq; exact k2
    | 3, hq => cases hq; exact k3
  · intro k q hq
    match k, hq with
    | 0, hq => cases hq; exact ⟨fun n z => ⟨fun k h => (by cases h), ka0, q0, co0, r0⟩, p0⟩
    | 1, hq => cases hq; exact ⟨fun n z => ⟨fun k h => (by cases h), ka1, q1, co1, r1⟩, p1⟩
    | 2, hq => cases hq; exact ⟨fun n z => ⟨fun k h => (by cases h), ka2, q2, co2, r2⟩, p2⟩
    | 3, hq => cases hq; exact ⟨fun n z => ⟨fun k h => (by cases h), ka3, f3, co3, f4⟩, ka3, co3, f3, f4, f1, f5⟩
  · intro k q hq
    match k, hq with
    | 0, hq => cases hq; exact p0
    | 1, hq => cases hq; exact p1
    | 2, hq => cases hq; exact p2
    | 3, hq => cases hq; exact f5
def st_A (s : State) : Nat → Prop := fun q => s.heap.size ≤ q
theorem st_nA {s : State} : ∀ a : Nat, a < s.heap.size → ¬ st_A s a := fun a h h2 => absurd (Nat.lt_of_lt_of_le h h2) (Nat.lt_irrefl _)
theorem st_S {args : Array Value} {s : State} {b : Nat} (hts : ∀ w ∈ lw_tbl, w.before args s = true) (hg : ∀ c ∈ flatC (Jvm.Cond.and given_1 narrow_1), c.before args s = true) : ∃ σ aV : Nat → Nat, xl_S σ aV (st_A s) s s.heap ∧ σ 99 = b := by
  obtain ⟨σ, aV, h1, h2⟩ := vk_Sof (args := args) (s := s) (N := xl_sn) (tm := st_tm) (len := xl_sl) (byt := xl_sb) (A := st_A s) (by decide) (fun i hi => hg _ (st_ex i hi)) (fun i hi => hg _ (st_co i hi)) (fun i hi => hg _ (st_ar i hi)) (fun i hi => hg _ (st_le i hi)) (fun i hi j hj => hg _ (st_el i hi j hj)) (fun i j hi hj hne => (st_ne i hi j hj hne).imp (hg _) (hg _)) st_nA
  have hZ : va_Z "java/lang/String" "COMPACT_STRINGS" "Z" (.int 1) (st_A s) s s.heap := va_Zof (hts _ (List.mem_of_getElem? (i := 499) (by decide +kernel))) (hts _ (List.mem_of_getElem? (i := 100) (by decide +kernel))) (va_eqt (hg _ (by decide +kernel))) st_nA
  have hQ : va_Zq "jdk/internal/util/Preconditions" "SIOOBE_FORMATTER" "Ljava/util/function/BiFunction;" (st_A s) s s.heap := va_Zqof (hts _ (List.mem_of_getElem? (i := 519) (by decide +kernel))) (hts _ (List.mem_of_getElem? (i := 102) (by decide +kernel))) (hg _ (by decide +kernel)) st_nA
  have main : ∀ t : Nat, (va_Z "jdk/internal/util/Preconditions" "SIOOBE_FORMATTER" "Ljava/util/function/BiFunction;" .null (st_A s) s s.heap ∨ va_Z "jdk/internal/util/Preconditions" "SIOOBE_FORMATTER" "Ljava/util/function/BiFunction;" (.ref t) (st_A s) s s.heap) → ∃ σ aV : Nat → Nat, xl_S σ aV (st_A s) s s.heap ∧ σ 99 = b := by
    intro t hQ
    obtain ⟨f, hf⟩ : ∃ f : Nat → Nat, f = fun j => if j = 99 then b else if j = 300 then t else if 200 ≤ j then aV (j - 200) else σ j := ⟨_, rfl⟩
    have e : ∀ i, i < 9 → f i = σ i := fun i hi => by
      rw [hf]
      show (if i = 99 then b else if i = 300 then t else if 200 ≤ i then aV (i - 200) else σ i) = σ i
      rw [if_neg (by omega), if_neg (by omega), if_neg (by omega)]
    have e2 : ∀ i, i < 9 → f (200 + i) = aV i := fun i hi => by
      rw [hf]
      show (if 200 + i = 99 then b else if 200 + i = 300 then t else if 200 ≤ 200 + i then aV (200 + i - 200) else σ (200 + i)) = aV i
      rw [if_neg (by omega), if_neg (by omega), if_pos (by omega), Nat.add_sub_cancel_left]
    have e3 : f 300 = t := by rw [hf]; rfl
    have e9 : f 99 = b := by rw [hf]; rfl
    refine ⟨f, aV, ⟨⟨fun i hi => ?_, fun i j hi hj q => ?_⟩, hZ, by rw [e3]; exact hQ, fun j hj => ?_, fun j hj => e2 j hj⟩, e9⟩
    · rw [e i hi]
      exact h1.1 i hi
    · rw [e i hi, e j hj] at q
      exact h1.2 i j hi hj q
    · rw [e j hj]
      exact vk_R.of (A := args) (hts _ (st_sr j hj)) (h2 j hj)
  rcases hQ with h | ⟨t, h⟩
  · exact main 0 (Or.inl h)
  · exact main t (Or.inr h)
theorem st_E {args : Array Value} {s : State} (hts : ∀ w ∈ lw_tbl, w.before args s = true) (hg : ∀ c ∈ flatC (Jvm.Cond.and given_1 narrow_1), c.before args s = true) : xt_E (st_A s) s :=
  ⟨vx_Zqof (hts _ xt_lU) (hts _ xt_iT) (hg _ (by decide +kernel)) st_nA, vx_Zqof (hts _ xt_lN) (hts _ xt_iT) (hg _ (by decide +kernel)) st_nA, va_Nw.of rfl (hts _ xt_b0), va_Nw.of rfl (hts _ xt_b1), va_Nw.of rfl (hts _ xt_b2), va_Nw.of rfl (hts _ xt_b3)⟩
