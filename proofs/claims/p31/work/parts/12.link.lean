/-! ===== calls: a callee's view among the caller's ===== -/
section LNK
variable {σ τ : Type} {enc : σ → XH} {bd : σ → Prop} {enc' : τ → XH} {bd' : τ → Prop} {M μ : XI} {rc rs pc pc2 : Nat}
def pRel (π : Nat → Nat) : PV → PV := fun v => match v with
  | .inr (.inr (.inl r)) => .inr (.inr (.inl (π r)))
  | .inl z => .inl z
  | .inr (.inl z) => .inr (.inl z)
  | .inr (.inr (.inr j)) => .inr (.inr (.inr j))
theorem pRel_v (π ρ σ' : Nat → Nat) (v : PV) : xl_v ρ σ' (pV (pRel π v)) = xl_v (fun k => ρ (π k)) σ' (pV v) := by
  rcases v with z | z | r | j <;> rfl
theorem pRel_m (π ρ σ' : Nat → Nat) (l : List PV) : ((l.map (pRel π)).map pV).map (xl_v ρ σ') = (l.map pV).map (xl_v (fun k => ρ (π k)) σ') := by
  rw [List.map_map, List.map_map, List.map_map]
  exact List.map_congr_left (fun v _ => pRel_v π ρ σ' v)
def vLk (enc : σ → XH) (bd : σ → Prop) (enc' : τ → XH) (bd' : τ → Prop) (π : Nat → Nat) (sub : σ → τ) (put : σ → τ → σ) : Prop :=
  (∀ s, bd s → bd' (sub s) ∧ xl_pi π (enc s) (enc' (sub s)) ∧ ∀ j c, (enc' (sub s))[j]? = some c → xl_ok π j c) ∧ ∀ s s', bd s → bd' s' → bd (put s s') ∧ (enc' s').length = (enc' (sub s)).length ∧ xl_back π (enc' (sub s)).length (enc s) (enc' s') (enc (put s s')) ∧ ∀ j c, (enc' s')[j]? = some c → xl_ok π j c
theorem xl_back_u {π : Nat → Nat} {n : Nat} {h h' h1 h2 : XH} (a : xl_back π n h h' h1) (b : xl_back π n h h' h2) : h1 = h2 := by
  apply List.ext_getElem?
  intro k
  by_cases hk : ∃ j, j < n ∧ π j = k
  · obtain ⟨j, hj, rfl⟩ := hk
    rw [a.2.1 j hj, b.2.1 j hj]
  · rw [a.2.2 k (fun j hj e => hk ⟨j, hj, e⟩), b.2.2 k (fun j hj e => hk ⟨j, hj, e⟩)]
theorem cVirt {sp' : Sp τ} {sp : Sp σ} {ci n : Nat} (hm : mOk enc' bd' μ sp') (hv : xl_V μ) (d : xl_Ca M pc μ pc2) (hcl : ∃ T N, vwCl[ci]? = some (μ.1.cls, T, N)) (hn : n = μ.2.2.2.2.2.2 + 1)
    (h : ∀ as s K, bd s → sp as s K → ∃ (π : Nat → Nat) (sub : σ → τ) (put : σ → τ → σ) (as' : List PV), vLk enc bd enc' bd' π sub put ∧ (∃ fs, xl_n (enc s) (π 0) = some (.inr (ci, fs))) ∧ as = pR (π 0) :: as'.map (pRel π) ∧ sp' (pR 0 :: as') (sub s) (fun v s' => K v (put s s'))) : cOk enc bd M rc rs pc pc2 n sp := by
  intro as L st s K Q hlen hw hb hs hk
  obtain ⟨π, sub, put, as', lk, ⟨fs, hh⟩, rfl, hs'⟩ := h as s K hb hs
  obtain ⟨b1, b2, b3⟩ := lk.1 s hb
  have hc := hm _ _ _ b1 hs'
  refine xl_callV (mc := 0) (ms := 0) (As := (as'.map (pRel π)).map pV) (As' := (pR 0 :: as').map pV) (rest := st.map pV) π d hv hcl hh ?_ ?_ ?_ ?_ b2 b3 hc ?_ ?_
  · simp [List.map_append, List.map_reverse, pV]
  · simp at hlen ⊢; omega
  · rw [pw_ok]; exact hw
  · intro ρ σ'
    rw [List.map_cons, pRel_m]
    rfl
  · rintro v h' ⟨v', s', e1, rfl, q1, q2, q3⟩
    obtain ⟨p1, p2, p3, p4⟩ := lk.2 s s' hb q1
    exact ⟨p2, p4, q2⟩
  · rintro v h' h1 ⟨v', s', e1, rfl, q1, q2, q3⟩ hbk
    obtain ⟨p1, p2, p3, p4⟩ := lk.2 s s' hb q1
    rw [xl_back_u hbk p3, e1, ← List.map_append]
    exact hk _ _ q3 p1
theorem cStat {sp' : Sp τ} {sp : Sp σ} {n : Nat} (hm : mOk enc' bd' μ sp') (hv : xl_U μ) (d : xl_Cs M pc μ pc2) (hn : n = μ.2.2.2.2.2.2)
    (h : ∀ as s K, bd s → sp as s K → ∃ (π : Nat → Nat) (sub : σ → τ) (put : σ → τ → σ) (as' : List PV), vLk enc bd enc' bd' π sub put ∧ as = as'.map (pRel π) ∧ sp' as' (sub s) (fun v s' => K v (put s s'))) : cOk enc bd M rc rs pc pc2 n sp := by
  intro as L st s K Q hlen hw hb hs hk
  obtain ⟨π, sub, put, as', lk, rfl, hs'⟩ := h as s K hb hs
  obtain ⟨b1, b2, b3⟩ := lk.1 s hb
  have hc := hm _ _ _ b1 hs'
  refine xl_callS (mc := 0) (ms := 0) (As := (as'.map (pRel π)).map pV) (As' := as'.map pV) (rest := st.map pV) π d hv ?_ ?_ ?_ ?_ b2 b3 hc ?_ ?_
  · simp [List.map_append, List.map_reverse]
  · simp at hlen ⊢; omega
  · rw [pw_ok]; exact hw
  · intro ρ σ'
    exact pRel_m π ρ σ' as'
  · rintro v h' ⟨v', s', e1, rfl, q1, q2, q3⟩
    obtain ⟨p1, p2, p3, p4⟩ := lk.2 s s' hb q1
    exact ⟨p2, p4, q2⟩
  · rintro v h' h1 ⟨v', s', e1, rfl, q1, q2, q3⟩ hbk
    obtain ⟨p1, p2, p3, p4⟩ := lk.2 s s' hb q1
    rw [xl_back_u hbk p3, e1, ← List.map_append]
    exact hk _ _ q3 p1
/-- the same cells -/
theorem vLk_id (hl : ∀ s s' : σ, (enc s').length = (enc s).length) : vLk enc bd enc bd (fun k => k) (fun s => s) (fun _ s' => s') :=
  ⟨fun s hb => ⟨hb, xl_pi_all, fun j c _ => xl_ok_all j c⟩, fun s s' hb hb' => ⟨hb', hl s s', ⟨by rw [hl s s'], fun j _ => rfl, fun k hk => by
    have h1 : ¬ k < (enc s).length := fun q => hk k q rfl
    rw [List.getElem?_eq_none (by rw [hl s s']; omega), List.getElem?_eq_none (by omega)]⟩, fun j c _ => xl_ok_all j c⟩⟩
/-- a run of places -/
theorem vLk_run {sub : σ → τ} {put : σ → τ → σ} {r n : Nat} (hn : ∀ t : τ, (enc' t).length = n) (h0 : 0 < n) (h1 : ∀ s, ((enc s).drop r).take n = enc' (sub s)) (h2 : ∀ s t, enc (put s t) = (enc s).take r ++ (enc' t ++ (enc s).drop (r + n))) (h3 : ∀ s, bd s → bd' (sub s)) (h4 : ∀ s t, bd s → bd' t → bd (put s t)) (h5 : ∀ s, r + n ≤ (enc s).length) : vLk enc bd enc' bd' (fun k => r + k) sub put := by
  refine ⟨fun s hb => ⟨h3 s hb, xl_pi_add (by rw [hn]; exact h1 s), fun j c _ => xl_ok_add r j c⟩, fun s t hb hb' => ⟨h4 s t hb hb', by rw [hn, hn], ⟨?_, ?_, ?_⟩, fun j c _ => xl_ok_add r j c⟩⟩
  · rw [h2]; simp only [List.length_append, List.length_take, List.length_drop, hn]; have := h5 s; omega
  · intro j hj
    rw [hn] at hj
    show (enc (put s t))[r + j]? = _
    rw [h2, List.getElem?_append_right (by rw [List.length_take]; omega), List.length_take, Nat.min_eq_left (by have := h5 s; omega), List.getElem?_append_left (by rw [hn]; omega)]
    congr 1; omega
  · intro k hk
    have hout : k < r ∨ r + n ≤ k := by
      rcases Nat.lt_or_ge k r with q | q
      · exact Or.inl q
      · rcases Nat.lt_or_ge k (r + n) with q2 | q2
        · exact absurd (show r + (k - r) = k by omega) (hk (k - r) (by rw [hn]; omega))
        · exact Or.inr q2
    have h5 := h5 s
    rcases hout with q | q
    · rw [h2, List.getElem?_append_left (by rw [List.length_take]; omega), List.getElem?_take, if_pos q]
    · rw [h2, List.getElem?_append_right (by rw [List.length_take]; omega), List.length_take, Nat.min_eq_left (by omega), List.getElem?_append_right (by rw [hn]; omega), hn, List.getElem?_drop]
      congr 1; omega
/-- no cells -/
theorem vLk_no : vLk enc bd (fun _ : Unit => []) (fun _ => True) (fun k => k) (fun _ => ()) (fun s _ => s) :=
  ⟨fun s hb => ⟨trivial, ⟨fun i j hi => by simp at hi, fun j hj => by simp at hj⟩, fun j c e => by simp at e⟩, fun s s' hb _ => ⟨hb, rfl, ⟨rfl, fun j hj => by simp at hj, fun k _ => rfl⟩, fun j c e => by simp at e⟩⟩
/-- specs that stay with their state -/
def spRO (sp : Sp τ) : Prop := ∀ as s K, sp as s K → sp as s (fun v s' => s' = s ∧ K v s')
def atR (r : Nat) (f : List PV → σ → (PS → σ → Prop) → Prop) : Sp σ := fun as s K => match as with
  | .inr (.inr (.inl q)) :: as => bif Nat.beq q r then f as s K else False
  | _ => False
theorem atR_inv {r : Nat} {f : List PV → σ → (PS → σ → Prop) → Prop} {as : List PV} {s : σ} {K : PS → σ → Prop} (h : atR r f as s K) : ∃ as', as = pR r :: as' ∧ f as' s K := by
  unfold atR at h
  split at h
  · next q as =>
    obtain ⟨h1, h2⟩ := condT h
    rw [Nat.eq_of_beq_eq_true h1]
    exact ⟨as, rfl, h2⟩
  · exact h.elim
def pnr : PV → Bool := fun v => match v with
  | .inr (.inr (.inl _)) => false
  | _ => true
theorem pnr_rel {π : Nat → Nat} : ∀ {l : List PV}, l.all pnr = true → l.map (pRel π) = l
  | [], _ => rfl
  | v :: l, h => by
    rw [List.all_cons, Bool.and_eq_true] at h
    rw [List.map_cons, pnr_rel h.2]
    rcases v with z | z | r | j
    · rfl
    · rfl
    · cases h.1
    · rfl
theorem pid_rel : ∀ (l : List PV), l.map (pRel (fun k => k)) = l
  | [] => rfl
  | v :: l => by rw [List.map_cons, pid_rel l]; rcases v with z | z | r | j <;> rfl
/-- a method of the same cells -/
theorem cSame {f : List PV → σ → (PS → σ → Prop) → Prop} {ci n : Nat} (hm : mOk enc bd μ (atR 0 f)) (hv : xl_V μ) (d : xl_Ca M pc μ pc2) (hcl : ∃ T N, vwCl[ci]? = some (μ.1.cls, T, N)) (hn : n = μ.2.2.2.2.2.2 + 1) (hl : ∀ s s' : σ, (enc s').length = (enc s).length) (hr : ∀ s, ∃ fs, xl_n (enc s) 0 = some (.inr (ci, fs))) : cOk enc bd M rc rs pc pc2 n (atR 0 f) := by
  refine cVirt hm hv d hcl hn (fun as s K hb hs => ?_)
  obtain ⟨as', rfl, h⟩ := atR_inv hs
  exact ⟨fun k => k, fun s => s, fun _ s' => s', as', vLk_id hl, hr s, by rw [pid_rel], hs⟩
/-- a static method that sees no cells -/
theorem cNone {f : List PV → (PS → Prop) → Prop} {n : Nat} (hm : mOk (fun _ : Unit => []) (fun _ => True) μ (fun as _ K => as.all pnr = true ∧ f as (fun v => K v ()))) (hv : xl_U μ) (d : xl_Cs M pc μ pc2) (hn : n = μ.2.2.2.2.2.2) : cOk enc bd M rc rs pc pc2 n (fun as s K => as.all pnr = true ∧ f as (fun v => K v s)) := by
  refine cStat hm hv d hn (fun as s K hb hs => ?_)
  exact ⟨fun k => k, fun _ => (), fun s _ => s, as, vLk_no, by rw [pid_rel], hs⟩
end LNK
