/-! ===== an event joins: what the model leaves; the order stays ===== -/
theorem tk_f : ∀ (T : List Row) (b : Int) (g : Int → Int), (∀ r, r ∈ T → gR r) → b7 b g → b + T.length < 1000000 → b7 (b + T.length) (T.foldl tkG g) ∧ ∀ c, (c < 7 ∨ (8 ≤ c ∧ c < 32) ∨ (36 ≤ c ∧ c < 60) ∨ (84 ≤ c ∧ c < 1484) ∨ 1844 ≤ c) → T.foldl tkG g c = g c
  | [], b, g, _, h7, hb => ⟨⟨h7.1, by have := h7.2; show g 7 ≤ b + ((0 : Nat) : Int); omega⟩, fun _ _ => rfl⟩
  | r :: T, b, g, hT, h7, hb => by
    rw [List.length_cons] at hb ⊢
    have hg := hT r List.mem_cons_self
    obtain ⟨a, e⟩ := tk_f T (b + 1) (tkG g r) (fun x hx => hT x (List.mem_cons_of_mem r hx)) (h7.tk (by omega) hg) (by omega)
    exact ⟨⟨a.1, Int.le_trans a.2 (by omega)⟩, fun c hc => (e c hc).trans (tkG_ne h7.1 hg hc)⟩
theorem flt_all {P : Row → Bool} {T : List Row} (h : ∀ x, x ∈ T → P x = true) : T.filter P = T := List.filter_eq_self.mpr h
theorem flt_none {P : Row → Bool} {T : List Row} (h : ∀ x, x ∈ T → ¬ P x = true) : T.filter P = [] := List.filter_eq_nil_iff.mpr h
theorem joinS {d ga la p e b k t v : Int} {n : Nat} {K : MS → Prop} {s : MS} {g : Int → Int} {l A T C : List Row} (hd : dOk d) (h : mJoinP s d k t v n K) (hL : lsM d s l) (hB : sB d s g) (hs : stG g ga la p) (he : g 3 = e) (hl : gdL ga l) (sp : sp3 ga k t l A T C) (hk : 0 ≤ k ∧ k < 6) (ht : 0 ≤ t ∧ t ≤ 9999) (hv : xB v) (hn : l.length ≤ 159) (h7 : b7 b g) (hb : b + l.length + 2 < 1000000) : mJoinP s d k t v n (fun s' => K s' ∧ lsM d s' (A ++ anR (kdR ga p e (T.foldl mrR (frR k t v))) (T.foldl mrR (frR k t v)) :: C) ∧ sB d s' (anG (kdR ga p e (T.foldl mrR (frR k t v))) (T.foldl mrR (frR k t v)) (in1 (T.foldl tkG g) 11 (if 1 < (T.length : Int) then 1 else 0)))) := by
  have hd0 : 0 ≤ d := hd.1
  have sp' := sp
  obtain ⟨e0, hA, hT, hC⟩ := sp
  have el : l.length = A.length + (T.length + C.length) := by rw [e0, List.length_append, List.length_append]
  have hTg : ∀ r, r ∈ T → gR r := fun r hr => hl.1 r (by rw [e0]; exact List.mem_append_right _ (List.mem_append_left _ hr))
  have fT : l.filter (tcB ga k t) = T := by
    rw [e0, List.filter_append, List.filter_append, flt_none (fun x hx => lo_tc (hA x hx)), flt_all hT, flt_none (fun x hx => hi_tc (hC x hx)), List.append_nil]
    rfl
  have mA : A.map (tkT ga k t) = A := by
    have : ∀ x, x ∈ A → tkT ga k t x = x := fun x hx => if_neg (lo_tc (hA x hx))
    rw [List.map_congr_left this, List.map_id']
  have mC' : C.map (tkT ga k t) = C := by
    have : ∀ x, x ∈ C → tkT ga k t x = x := fun x hx => if_neg (hi_tc (hC x hx))
    rw [List.map_congr_left this, List.map_id']
  have mT : T.map (tkT ga k t) = T.map (fun r => up1 r 6 0) := List.map_congr_left (fun x hx => if_pos (hT x hx))
  have mT' : ∀ x, x ∈ T.map (tkT ga k t) → tcB ga k t x = true := fun x hx => by
    obtain ⟨y, hy, ey⟩ := List.mem_map.mp hx
    rw [← ey, tkT_tc]
    exact hT y hy
  have lm : l.map (tkT ga k t) = A ++ (T.map (tkT ga k t) ++ C) := by rw [e0, List.map_append, List.map_append, mA, mC']
  have f1 : (l.map (tkT ga k t)).filter (tcB ga k t) = T.map (fun r => up1 r 6 0) := by
    rw [lm, List.filter_append, List.filter_append, flt_none (fun x hx => lo_tc (hA x hx)), flt_all mT', flt_none (fun x hx => hi_tc (hC x hx)), List.append_nil, mT]
    rfl
  have f2 : (l.map (tkT ga k t)).filter (fun x => !tcB ga k t x) = A ++ C := by
    rw [lm, List.filter_append, List.filter_append, flt_all (fun x hx => by rw [Bool.eq_false_iff.mpr (lo_tc (hA x hx))]; rfl), flt_none (fun x hx => by rw [mT' x hx]; decide), flt_all (fun x hx => by rw [Bool.eq_false_iff.mpr (hi_tc (hC x hx))]; rfl)]
    rfl
  obtain ⟨t7, tne⟩ := tk_f T b g hTg h7 (by omega)
  have hR : gR (T.foldl mrR (frR k t v)) := mrs_g T _ (frR_g hk ht hv) hTg
  have hRA : ∀ x, x ∈ A → ¬ behR (T.foldl mrR (frR k t v)) x := fun x hx z => by
    have q := hA x hx
    have gx := (hl.1 x (by rw [e0]; exact List.mem_append_left _ hx)).2.1
    unfold behR at z
    rw [(mrs_0 T (frR k t v)).1, frR_c.1] at z
    unfold loB at q
    have g0 := hs.2.1.1
    by_cases c : x 0 = k
    · have := mrs_lt T (frR k t v) (x 1) (by rw [frR_c.2.1]; omega) (fun y hy => by
        have hb := hl.2
        rw [e0] at hb
        have b1 := (List.pairwise_append.mp hb).2.2 x hx y (List.mem_append_left _ hy)
        have yk := (of_decide_eq_true (hT y hy)).1
        unfold bef at b1
        omega)
      omega
    · omega
  have hRC : ∀ x, x ∈ C → behR (T.foldl mrR (frR k t v)) x := fun x hx => by
    have q := hC x hx
    have := mrs_le T (frR k t v)
    rw [frR_c.2.1] at this
    unfold behR
    rw [(mrs_0 T (frR k t v)).1, frR_c.1]
    unfold hiB at q
    have g0 := hs.2.1.1
    omega
  unfold mJoinP at h ⊢
  have u := jn1S hd0 n l [] b (mFresh s k t v) g h (hL.cong rfl) (hB.cong rfl) hs hl.1 h7 (by omega) (Int.le_refl 0) (show (0 : Int) + l.length < 1000000 by omega)
  refine jnP1_mono (fun s1 y => ?_) _ _ _ u
  obtain ⟨y1, y2, y3, y4, y5⟩ := y
  have y2 : lsM d s1 (l.map (tkT ga k t)) := y2
  have y5 : s1.1 12 = 0 + ((l.filter (tcB ga k t)).length : Int) := y5
  rw [fT] at y3 y5
  have e5 : wI (mg s1 (d * 2804 + 5) - 1) = ((l.map (tkT ga k t)).length : Int) - 1 := by
    have q := y2.1
    rw [q.1, wI_id ⟨by omega, by omega⟩]
  rw [e5] at y1 ⊢
  have hs1 : stG (T.foldl tkG g) ga la p := hs.of (fun c c0 c1 => tne c (by omega))
  have v1 := jn2S hd n (l.map (tkT ga k t)) [] s1 (T.foldl tkG g) (frR k t v) y1 (by rw [List.append_nil]; exact y2) y3 hs1 (by rw [y4]; exact fresh_F s k t v) (fun r hr => by
    obtain ⟨z, hz, ez⟩ := List.mem_map.mp hr
    rw [← ez]
    exact tkT_g (hl.1 z hz))
  refine jnP2_mono (fun s2 z => ?_) _ _ _ v1
  obtain ⟨z1, z2, z3, z4, z5⟩ := z
  rw [f2, List.append_nil] at z2
  rw [f1, mrs_rev, mrs_up] at z4
  rw [y5] at z5
  have z5 : s2.1 12 = T.length := by rw [z5]; omega
  generalize T.foldl mrR (frR k t v) = R at z4 hR hRA hRC ⊢
  unfold jnE at z1 ⊢
  rw [z5] at z1 ⊢
  dsimp only at z1 ⊢
  refine ⟨z1.1, ?_⟩
  have w2 := z1.2
  have L3 : lsM d (mInc s2 (d * 2804 + 11) (if 1 < (T.length : Int) then 1 else 0)) (A ++ C) := z2.ne hd0 (by decide) (by unfold zB; omega)
  have B3 := z3.inc (v := if 1 < (T.length : Int) then 1 else 0) hd0 (rfl : d * 2804 + 11 = d * 2804 + 11) (by decide) (by unfold zB; omega)
  have F3 : frM ((mInc s2 (d * 2804 + 11) (if 1 < (T.length : Int) then 1 else 0)).2 4) R := by
    rw [inc4]
    exact z4
  have G7 : b7 (b + T.length) (in1 (T.foldl tkG g) 11 (if 1 < (T.length : Int) then 1 else 0)) := by
    unfold b7
    rw [in1_ne (by decide)]
    exact t7
  have G5 : ∀ c, 0 ≤ c → c < 5 → in1 (T.foldl tkG g) 11 (if 1 < (T.length : Int) then 1 else 0) c = g c := fun c c0 c1 => by
    rw [in1_ne (by omega), tne c (by omega)]
  generalize mInc s2 (d * 2804 + 11) (if 1 < (T.length : Int) then 1 else 0) = s3 at L3 B3 F3 w2 ⊢
  generalize in1 (T.foldl tkG g) 11 (if 1 < (T.length : Int) then 1 else 0) = g3 at B3 G7 G5 ⊢
  obtain ⟨i1, i2, i3, i4⟩ := inM hd0 L3 B3 F3 (by rw [List.length_append]; omega) hRA hRC
  rw [i1] at w2 ⊢
  have F4 : frM ((mIn s3 d).2.2 4) R := by rw [i4]; exact F3
  generalize (mIn s3 d).2 = s4 at i2 i3 F4 w2 ⊢
  have hs4 : stG g3 ga la p := hs.of G5
  have rp := rip_m (q := mg s4 (d * 2804 + 4)) i2 i3 at_len hR hs4
  have e4 := i3 4 (by decide) (by unfold zB; omega)
  have e3 := i3 3 (by decide) (by unfold zB; omega)
  rw [hs4.1.2.2] at e4
  rw [G5 3 (by decide) (by decide), he] at e3
  have f3 := F4 3 (by decide)
  have f3 : s4.2 4 3 = R 3 := f3
  have hb7 : 0 ≤ g3 7 := G7.1
  have snd : ∀ kd, 0 ≤ kd ∧ kd < 4 → kd ≠ 3 → lsM d (mSend s4 d kd (A.length : Int)) (A ++ up1 R 6 (kd + 1) :: C) ∧ sB d (mSend s4 d kd (A.length : Int)) (sn1 g3 kd R) := fun kd hkd h3 => by
    obtain ⟨a, b⟩ := snM (kd := kd) i2 i3 hd0 at_len hb7 hkd hR.1
    rw [if_neg h3, set_len, show 1 + kd = kd + 1 by omega] at a
    exact ⟨a, b⟩
  unfold jnF at w2 ⊢
  refine ⟨fun q => ⟨(w2.1 q).1, (w2.1 q).2, ?_⟩, fun q => ⟨fun q2 => ⟨((w2.2 q).1 q2).1, ((w2.2 q).1 q2).2, ?_⟩, fun q2 => ⟨(w2.2 q).2 q2, ?_⟩⟩⟩
  · have c := rp.mp q
    rw [e4] at c
    have ek : kdR ga p e R = 2 := if_pos c
    unfold anR anG
    rw [ek, if_pos (by decide), if_pos (by decide)]
    exact snd 2 (by decide) (by decide)
  · have c : ¬ R 2 + ga < p := fun y => q (rp.mpr (by rw [e4]; exact y))
    rw [e3, f3] at q2
    have ek : kdR ga p e R = 0 := (if_neg c).trans (if_pos q2)
    unfold anR anG
    rw [ek, if_pos (by decide), if_pos (by decide)]
    exact snd 0 (by decide) (by decide)
  · have c : ¬ R 2 + ga < p := fun y => q (rp.mpr (by rw [e4]; exact y))
    rw [e3, f3] at q2
    have ek : kdR ga p e R = -1 := (if_neg c).trans (if_neg q2)
    unfold anR anG
    rw [ek, if_neg (by decide), if_neg (by decide)]
    exact ⟨i2, i3⟩
/-! the order stays -/
theorem mrs_2 : ∀ (T : List Row) (x : Row) (z : Int), x 2 < z → (∀ y : Row, y ∈ T → y 2 < z) → T.foldl mrR x 2 < z
  | [], _, _, h, _ => h
  | y :: T, x, z, h, hT => mrs_2 T (mrR x y) z (by
    rw [mrR_c.2.2.1]
    have := hT y List.mem_cons_self
    omega) (fun q hq => hT q (List.mem_cons_of_mem y hq))
theorem anR_g {kd : Int} {R : Row} (h : gR R) (hk : kd ≤ 2) : gR (anR kd R) ∧ anR kd R 0 = R 0 ∧ anR kd R 1 = R 1 ∧ anR kd R 2 = R 2 := by
  unfold anR
  split
  · exact ⟨h.up (by omega), up1_6.1, up1_6.2.1, up1_6.2.2.1⟩
  · exact ⟨h, rfl, rfl, rfl⟩
theorem gdL.join {ga k t v kd : Int} {l A T C : List Row} (g0 : 0 ≤ ga) (hl : gdL ga l) (sp : sp3 ga k t l A T C) (hk : 0 ≤ k ∧ k < 6) (ht : 0 ≤ t ∧ t ≤ 9999) (hv : xB v) (hkd : kd ≤ 2) : gdL ga (A ++ anR kd (T.foldl mrR (frR k t v)) :: C) := by
  obtain ⟨e0, hA, hT, hC⟩ := sp
  have hTg : ∀ r, r ∈ T → gR r := fun r hr => hl.1 r (by rw [e0]; exact List.mem_append_right _ (List.mem_append_left _ hr))
  have hR : gR (T.foldl mrR (frR k t v)) := mrs_g T _ (frR_g hk ht hv) hTg
  have R0 : T.foldl mrR (frR k t v) 0 = k := (mrs_0 T _).1
  have hb := hl.2
  rw [e0] at hb
  obtain ⟨p1, p2, p3⟩ := List.pairwise_append.mp hb
  obtain ⟨q1, q2, q3⟩ := List.pairwise_append.mp p2
  have hRA : ∀ x : Row, x ∈ A → x 0 < k ∨ (x 0 = k ∧ x 2 + ga < T.foldl mrR (frR k t v) 1) := fun x hx => by
    have q := hA x hx
    unfold loB at q
    by_cases c : x 0 = k
    · refine Or.inr ⟨c, mrs_lt T (frR k t v) (x 2 + ga) (by rw [frR_c.2.1]; omega) (fun y hy => ?_)⟩
      have b1 := p3 x hx y (List.mem_append_left _ hy)
      have yk := (of_decide_eq_true (hT y hy)).1
      unfold bef at b1
      omega
    · omega
  have hRC : ∀ x : Row, x ∈ C → k < x 0 ∨ (x 0 = k ∧ T.foldl mrR (frR k t v) 2 + ga < x 1) := fun x hx => by
    have q := hC x hx
    unfold hiB at q
    by_cases c : x 0 = k
    · have := mrs_2 T (frR k t v) (x 1 - ga) (by rw [frR_c.2.2.1]; omega) (fun y hy => by
        have b1 := q3 y hy x hx
        have yk := (of_decide_eq_true (hT y hy)).1
        unfold bef at b1
        omega)
      exact Or.inr ⟨c, by omega⟩
    · omega
  obtain ⟨a0, a1, a2, a3⟩ := anR_g hR hkd
  generalize anR kd (T.foldl mrR (frR k t v)) = R' at a0 a1 a2 a3 ⊢
  refine ⟨fun r hr => ?_, List.pairwise_append.mpr ⟨p1, List.pairwise_cons.mpr ⟨fun x hx => ?_, q2⟩, fun x hx y hy => ?_⟩⟩
  · rcases List.mem_append.mp hr with m | m
    · exact hl.1 r (by rw [e0]; exact List.mem_append_left _ m)
    · rcases List.mem_cons.mp m with m | m
      · rw [m]; exact a0
      · exact hl.1 r (by rw [e0]; exact List.mem_append_right _ (List.mem_append_right _ m))
  · unfold bef
    rw [a1, a3, R0]
    have := hRC x hx
    omega
  · rcases List.mem_cons.mp hy with m | m
    · rw [m]
      unfold bef
      rw [a1, a2, R0]
      exact hRA x hx
    · exact p3 x hx y (List.mem_append_right _ m)
/-! melted, counts by kinds -/
theorem f9_step {w : WS} {be i : Int} : (wStep w be i).1 9 = w.1 9 := by
  have key : ∀ x : WS, (if wOver x i (x.1 3) then wFin x i else x).1 9 = x.1 9 := by
    intro x
    split
    · rfl
    · rfl
  unfold wStep
  dsimp only
  rw [key]
  split
  · rfl
  · show (wTake w i).1 9 = w.1 9
    unfold wTake
    split <;> rfl
theorem f9_rise (be : Int) : ∀ (n : Nat) (pa : Int) (w : WS), (riseL be n pa w).1 9 = w.1 9
  | 0, _, _ => rfl
  | n + 1, pa, w => by
    rw [riseL]
    split
    · rfl
    · exact (f9_rise be n _ _).trans f9_step
def kS (g : Int → Int) : Prop := ∀ j, 0 ≤ j → j < 4 → g (32 + j) = g (60 + j) + g (64 + j) + g (68 + j) + g (72 + j) + g (76 + j) + g (80 + j) ∧ ∀ k, 0 ≤ k → k < 6 → 0 ≤ g (60 + 4 * k + j) ∧ g (60 + 4 * k + j) ≤ g 7
theorem kS.cong {g g' : Int → Int} (h : kS g) (e : ∀ c, c = 7 ∨ (32 ≤ c ∧ c < 36) ∨ (60 ≤ c ∧ c < 84) → g' c = g c) : kS g' := fun j j0 j1 => by
  obtain ⟨a, b⟩ := h j j0 j1
  refine ⟨?_, fun k k0 k1 => ?_⟩
  · rw [e (32 + j) (by omega), e (60 + j) (by omega), e (64 + j) (by omega), e (68 + j) (by omega), e (72 + j) (by omega), e (76 + j) (by omega), e (80 + j) (by omega)]
    exact a
  · rw [e (60 + 4 * k + j) (by omega), e 7 (by omega)]
    exact b k k0 k1
theorem kS.sn {b kd : Int} {g : Int → Int} {r : Row} (h : kS g) (h7 : b7 b g) (hb : b < 1000000) (hk : 0 ≤ kd ∧ kd < 4) (hr : gR r) : kS (sn1 g kd r) := fun j j0 j1 => by
  obtain ⟨a, c⟩ := h j j0 j1
  have g7 := h7.1
  have g7' := h7.2
  have e7 := sn1_7 (g := g) (kd := kd) (r := r) ⟨g7, by omega⟩ hk hr.1
  have c0 := c 0 (by decide) (by decide)
  have c1 := c 1 (by decide) (by decide)
  have c2 := c 2 (by decide) (by decide)
  have c3 := c 3 (by decide) (by decide)
  have c4 := c 4 (by decide) (by decide)
  have c5 := c 5 (by decide) (by decide)
  rw [show (60 : Int) + 4 * 0 + j = 60 + j by omega] at c0
  rw [show (60 : Int) + 4 * 1 + j = 64 + j by omega] at c1
  rw [show (60 : Int) + 4 * 2 + j = 68 + j by omega] at c2
  rw [show (60 : Int) + 4 * 3 + j = 72 + j by omega] at c3
  rw [show (60 : Int) + 4 * 4 + j = 76 + j by omega] at c4
  rw [show (60 : Int) + 4 * 5 + j = 80 + j by omega] at c5
  have K : ∀ k, 0 ≤ k → k < 6 → sn1 g kd r (60 + 4 * k + j) = g (60 + 4 * k + j) + (if k = r 0 ∧ j = kd then 1 else 0) := fun k k0 k1 => by
    have q := c k k0 k1
    rw [sn1_k g7 hk hr.1 ⟨k0, k1⟩ ⟨j0, j1⟩]
    by_cases z : k = r 0 ∧ j = kd
    · rw [if_pos z, if_pos z, wI_id (z := g (60 + 4 * k + j) + 1) ⟨by omega, by omega⟩]
    · rw [if_neg z, if_neg z]; omega
  have O : sn1 g kd r (32 + j) = g (32 + j) + (if j = kd then 1 else 0) := by
    rw [sn1_o g7 hk hr.1 ⟨j0, j1⟩]
    by_cases z : j = kd
    · rw [if_pos z, if_pos z, wI_id (z := g (32 + j) + 1) ⟨by omega, by omega⟩]
    · rw [if_neg z, if_neg z]; omega
  refine ⟨?_, fun k k0 k1 => ?_⟩
  · have k0 := K 0 (by decide) (by decide)
    have k1 := K 1 (by decide) (by decide)
    have k2 := K 2 (by decide) (by decide)
    have k3 := K 3 (by decide) (by decide)
    have k4 := K 4 (by decide) (by decide)
    have k5 := K 5 (by decide) (by decide)
    rw [show (60 : Int) + 4 * 0 + j = 60 + j by omega] at k0
    rw [show (60 : Int) + 4 * 1 + j = 64 + j by omega] at k1
    rw [show (60 : Int) + 4 * 2 + j = 68 + j by omega] at k2
    rw [show (60 : Int) + 4 * 3 + j = 72 + j by omega] at k3
    rw [show (60 : Int) + 4 * 4 + j = 76 + j by omega] at k4
    rw [show (60 : Int) + 4 * 5 + j = 80 + j by omega] at k5
    rw [O, k0, k1, k2, k3, k4, k5]
    have h0 := hr.1
    by_cases z : j = kd
    · rw [if_pos z]
      have : r 0 = 0 ∨ r 0 = 1 ∨ r 0 = 2 ∨ r 0 = 3 ∨ r 0 = 4 ∨ r 0 = 5 := by omega
      rcases this with q | q | q | q | q | q <;> rw [q] <;> simp [z] <;> rw [← z] <;> omega
    · rw [if_neg z, if_neg (fun y => z y.2), if_neg (fun y => z y.2), if_neg (fun y => z y.2), if_neg (fun y => z y.2), if_neg (fun y => z y.2), if_neg (fun y => z y.2)]
      omega
  · have q := c k k0 k1
    rw [K k k0 k1, e7]
    split <;> omega
theorem kS.tk {b : Int} {g : Int → Int} {r : Row} (h : kS g) (h7 : b7 b g) (hb : b < 1000000) (hr : gR r) : kS (tkG g r) := by
  unfold tkG
  split
  · exact h.sn h7 hb (by decide) hr
  · exact h
theorem kS.tks : ∀ (T : List Row) (b : Int) (g : Int → Int), (∀ r, r ∈ T → gR r) → kS g → b7 b g → b + T.length < 1000000 → kS (T.foldl tkG g)
  | [], _, _, _, h, _, _ => h
  | r :: T, b, g, hT, h, h7, hb => by
    rw [List.length_cons] at hb
    have hg := hT r List.mem_cons_self
    exact kS.tks T (b + 1) (tkG g r) (fun x hx => hT x (List.mem_cons_of_mem r hx)) (h.tk h7 (by omega) hg) (h7.tk (by omega) hg) (by omega)
theorem kS.rms : ∀ (T : List Row) (b : Int) (g : Int → Int), (∀ r, r ∈ T → gR r) → kS g → b7 b g → b + 2 * T.length < 1000000 → kS (T.foldl rmG g)
  | [], _, _, _, h, _, _ => h
  | r :: T, b, g, hT, h, h7, hb => by
    rw [List.length_cons] at hb
    have hg := hT r List.mem_cons_self
    exact kS.rms T (b + 2) (rmG g r) (fun x hx => hT x (List.mem_cons_of_mem r hx)) ((h.tk h7 (by omega) hg).sn (h7.tk (by omega) hg) (by omega) (by decide) hg) (h7.rm (by omega) hg) (by omega)
/-! with the finals' kinds -/
def fSF (g : Int → Int) : Prop := ∀ q, 0 ≤ q → q < 40 → 0 ≤ g (84 + 7 * q + 6) ∧ g (84 + 7 * q + 6) ≤ 3
def kSF (g : Int → Int) : Prop := kS g ∧ fSF g
theorem fSF.cong {g g' : Int → Int} (h : fSF g) (e : ∀ c, 84 ≤ c → c < 364 → g' c = g c) : fSF g' := fun q q0 q1 => by
  rw [e _ (by omega) (by omega)]
  exact h q q0 q1
theorem kSF.cong {g g' : Int → Int} (h : kSF g) (e : ∀ c, c = 7 ∨ (32 ≤ c ∧ c < 36) ∨ (60 ≤ c ∧ c < 84) ∨ (84 ≤ c ∧ c < 364) → g' c = g c) : kSF g' :=
  ⟨h.1.cong (fun c hc => e c (by omega)), h.2.cong (fun c c0 c1 => e c (by omega))⟩
theorem kSF.sn {b kd : Int} {g : Int → Int} {r : Row} (h : kSF g) (h7 : b7 b g) (hb : b < 1000000) (hk : 0 ≤ kd ∧ kd < 4) (hr : gR r) : kSF (sn1 g kd r) :=
  ⟨h.1.sn h7 hb hk hr, h.2.cong (fun c c0 c1 => sn1_ne h7.1 hk hr.1 (by omega))⟩
theorem kSF.tks (T : List Row) (b : Int) (g : Int → Int) (hT : ∀ r, r ∈ T → gR r) (h : kSF g) (h7 : b7 b g) (hb : b + T.length < 1000000) : kSF (T.foldl tkG g) :=
  ⟨kS.tks T b g hT h.1 h7 hb, h.2.cong (fun c c0 c1 => (tk_f T b g hT h7 hb).2 c (by omega))⟩
theorem kSF.rms (T : List Row) (b : Int) (g : Int → Int) (hT : ∀ r, r ∈ T → gR r) (h : kSF g) (h7 : b7 b g) (hb : b + 2 * T.length < 1000000) : kSF (T.foldl rmG g) :=
  ⟨kS.rms T b g hT h.1 h7 hb, h.2.cong (fun c c0 c1 => (rm_fold (C := fun c => 84 ≤ c ∧ c < 364) (fun c hc => by omega) T b g hT h7 hb).2 c ⟨c0, c1⟩)⟩
theorem kSF.fns : ∀ (T : List Row) (b : Int) (g : Int → Int), (∀ r, r ∈ T → gR r) → kSF g → b36 b g → b + T.length < 1000000 → kSF (T.foldl fn1 g)
  | [], _, _, _, h, _, _ => h
  | r :: T, b, g, hT, h, h36, hb => by
    rw [List.length_cons] at hb
    have hg := hT r List.mem_cons_self
    have s0 := (fn1_s (r := r) (h36.bd (by omega)) hg.1).2.1
    refine kSF.fns T (b + 1) (fn1 g r) (fun x hx => hT x (List.mem_cons_of_mem r hx)) ⟨h.1.cong (fun c hc => fn1_ne s0 hg.1 (by omega)), fun q q0 q1 => ?_⟩ (h36.fn (by omega) hg) (by omega)
    rw [fn1_m s0 hg.1 ⟨q0, q1⟩ (by decide)]
    split
    · exact hg.2.2.1
    · exact h.2 q q0 q1
