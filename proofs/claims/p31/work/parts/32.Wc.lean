/-! ===== World: reset, copyFrom, playInput ===== -/
def wOpn (w : WS) (t : Nat) (i : Int) : WS := if 0 ≤ i ∧ i ≤ wZ w t ∧ wZ w t < rmT t then wOp w t i else w
def rsL : Nat → Int → WS → WS
  | 0, _, w => w
  | n + 1, i, w => rsL n (i + 1) (wP (wOpn w 0 i) 0 i 1 20)
def rkL : Nat → Int → WS → WS
  | 0, _, w => w
  | n + 1, i, w => rkL n (i + 1) (wP (wOpn w 5 i) 5 i 7 (-1))
def wCl (w : WS) (t : Nat) : WS := setT w t (0, (w.2 t).2)
def wRes2 (w : WS) : WS := rkL 6 0 (wCl (wCl (wCl (wCl (wCl w 1) 2) 3) 4) 5)
def wReset (w : WS) (n g l e : Int) : WS := wRes2 (rsL n.toNat 0 (wCl (wFd (wFd (wFd (wFd (wFd (wFd (wFd (wFd (wFd (wFd w 0 g) 1 l) 2 e) 3 0) 4 0) 5 0) 6 0) 7 0) 8 0) 9 0) 0))
theorem X1_reset_l2 {K : KW} {Pt : WS → Prop} : ∀ (m : Nat) (i : Int) (s : WS), 0 ≤ i → i ≤ 6 → m = (6 - i).toNat → K [] (rkL m i s) → wX encW bdW mX1_reset 0 0 K Pt 133 [some (pR 0), none, none, none, none, some (pI i)] [] s := by
  intro m
  induction m with
  | zero =>
    intro i s h0 h1 hm hK
    refine wx_J [61, 133] 9 tX1_reset_ok rfl (fun J hR hJ => ?_)
    repeat' (first | (refine And.intro ?_ ?_) | intro _)
    all_goals first | omega | exact hR _ _ hK
  | succ m ih =>
    intro i s h0 h1 hm hK
    refine wx_J [61, 133] 9 tX1_reset_ok rfl (fun J hR hJ => ?_)
    rw [rkL] at hK
    have g := ih (i + 1) _ (by omega) (by omega) (by omega) hK
    unfold wOpn at g
    refine ⟨⟨⟨by omega, by omega⟩, ⟨by omega, by omega⟩⟩, fun c => absurd c (by omega), fun c => ⟨⟨by omega, by omega⟩, fun c1 => ?_, fun c1 => ?_⟩⟩
    · rw [if_pos c1] at g
      repeat' (first | (refine And.intro ?_ ?_) | intro _)
      all_goals first | omega | exact hJ _ _ _ _ g
    · rw [if_neg c1] at g
      repeat' (first | (refine And.intro ?_ ?_) | intro _)
      all_goals first | omega | exact hJ _ _ _ _ g
theorem X1_reset_l1 {K : KW} {Pt : WS → Prop} (n : Int) (hn : xB n) : ∀ (m : Nat) (i : Int) (s : WS), 0 ≤ i → i ≤ max 0 n → m = (n - i).toNat → K [] (wRes2 (rsL m i s)) → wX encW bdW mX1_reset 0 0 K Pt 61 [some (pR 0), some (pI n), none, none, none, some (pI i)] [] s := by
  intro m
  induction m with
  | zero =>
    intro i s h0 h1 hm hK
    refine wx_J [61, 133] 9 tX1_reset_ok rfl (fun J hR hJ => ?_)
    have g := X1_reset_l2 (K := K) (Pt := Pt) 6 0 _ (by omega) (by omega) (by omega) hK
    repeat' (first | (refine And.intro ?_ ?_) | intro _)
    all_goals first | omega | exact hJ _ _ _ _ g
  | succ m ih =>
    intro i s h0 h1 hm hK
    refine wx_J [61, 133] 9 tX1_reset_ok rfl (fun J hR hJ => ?_)
    rw [rsL] at hK
    have g := ih (i + 1) _ (by omega) (by omega) (by omega) hK
    unfold wOpn at g
    refine ⟨⟨⟨by omega, by omega⟩, ⟨by omega, by omega⟩⟩, fun c => absurd c (by omega), fun c => ⟨⟨by omega, by omega⟩, fun c1 => ?_, fun c1 => ?_⟩⟩
    · rw [if_pos c1] at g
      repeat' (first | (refine And.intro ?_ ?_) | intro _)
      all_goals first | omega | exact hJ _ _ _ _ g
    · rw [if_neg c1] at g
      repeat' (first | (refine And.intro ?_ ?_) | intro _)
      all_goals first | omega | exact hJ _ _ _ _ g
def sX1_reset : Int → Int → Int → Int → WS → KW → Prop := fun n g l e s K => (xB n ∧ xB g ∧ xB l ∧ xB e) ∧ K [] (wReset s n g l e)
theorem mX1_reset_ok : mOk encW bdW mX1_reset (atR 0 (a4 sX1_reset)) := by
  refine mOVa4 kX1_reset (fun _ _ _ _ => rfl) (fun n g l e s K h hb => wx_J [61, 133] 9 tX1_reset_ok rfl (fun J hR hJ => ?_))
  obtain ⟨⟨h1, h2, h3, h4⟩, hK⟩ := h
  have q := X1_reset_l1 (K := K) (Pt := fun _ => False) n h1 n.toNat 0 _ (by omega) (by omega) (by omega) hK
  repeat' (first | (refine And.intro ?_ ?_) | intro _)
  all_goals first | omega | exact hJ _ _ _ _ q
theorem wok_Opn {w : WS} {t : Nat} {i : Int} (ht : t < 6) (h : wok w) : wok (wOpn w t i) := by
  unfold wOpn
  split
  · next c => exact wok_Op ht h c.2.2
  · exact h
theorem wok_rsL : ∀ (n : Nat) (i : Int) (w : WS), wok w → wok (rsL n i w)
  | 0, _, _, h => h
  | n + 1, i, _, h => wok_rsL n (i + 1) _ (wok_P (by decide) (wok_Opn (by decide) h))
theorem wok_rkL : ∀ (n : Nat) (i : Int) (w : WS), wok w → wok (rkL n i w)
  | 0, _, _, h => h
  | n + 1, i, _, h => wok_rkL n (i + 1) _ (wok_P (by decide) (wok_Opn (by decide) h))
theorem rmT0 {t : Nat} (ht : t < 6) : 0 ≤ rmT t := by
  have key : ∀ t, t < 6 → 0 ≤ rmT t := by decide
  exact key t ht
theorem wok_Cl {w : WS} {t : Nat} (ht : t < 6) (h : wok w) : wok (wCl w t) := wok_set h ⟨by show (0 : Int) ≤ 0; omega, rmT0 ht⟩
theorem wok_Reset {w : WS} {n g l e : Int} (h : wok w) : wok (wReset w n g l e) :=
  wok_rkL _ _ _ (wok_Cl (by decide) (wok_Cl (by decide) (wok_Cl (by decide) (wok_Cl (by decide) (wok_Cl (by decide) (wok_rsL _ _ _ (wok_Cl (by decide) h)))))))
/-! two Worlds -/
abbrev WWS : Type := WS × WS
abbrev KWW : Type := PS → WWS → Prop
def encWW (s : WWS) : XH := encW s.1 ++ encW s.2
def bdWW (s : WWS) : Prop := bdW s.1 ∧ bdW s.2
def pUp (k : Nat) : PV → PV := fun v => match v with
  | .inr (.inr (.inl r)) => .inr (.inr (.inl (k + r)))
  | .inl z => .inl z
  | .inr (.inl z) => .inr (.inl z)
  | .inr (.inr (.inr j)) => .inr (.inr (.inr j))
def oUp (k : Nat) : Option PV → Option PV := fun v => match v with
  | some v => some (pUp k v)
  | none => none
def fgWW : FG WWS := fun s r ci k => bif Nat.blt r 13 then fgW s.1 r ci k else oUp 13 (fgW s.2 (r - 13) ci k)
def fpWW : FP WWS := fun s r ci k z => bif Nat.blt r 13 then (match fpW s.1 r ci k z with
  | some w => some (w, s.2)
  | none => none) else none
theorem xl_n_app {α : Type} : ∀ (a b : List α) (k : Nat), xl_n (a ++ b) k = if k < a.length then xl_n a k else xl_n b (k - a.length) := by
  intro a b k
  rw [xl_n_eq, xl_n_eq, xl_n_eq, List.getElem?_append]
theorem lenW13 (s : WS) : (encW s).length = 13 := rfl
theorem pUp_o {r k : Nat} {w : Value} {v : PV} (h : xl_o r w = pV v) : xl_o (k + r) w = pV (pUp k v) := by
  rcases v with z | z | q | j <;> cases w <;> simp_all [xl_o, pV, pUp, Nat.add_assoc]
theorem vFgWW : vFg encWW bdWW fgWW := by
  intro s r ci k v hb h
  unfold fgWW at h
  cases e : Nat.blt r 13 with
  | true =>
    rw [e] at h
    have hr : r < 13 := Nat.le_of_ble_eq_true e
    obtain ⟨fs, w, e1, e2, e3, e4⟩ := vFgW s.1 r ci k v hb.1 h
    exact ⟨fs, w, by rw [encWW, xl_n_app, if_pos (by rw [lenW13]; exact hr)]; exact e1, e2, e3, e4⟩
  | false =>
    rw [e] at h
    have hr : ¬ r < 13 := fun q => by rw [show Nat.blt r 13 = true from Nat.ble_eq_true_of_le q] at e; cases e
    dsimp only [cond_false] at h
    cases e2 : fgW s.2 (r - 13) ci k with
    | none => rw [e2] at h; cases h
    | some v0 =>
      rw [e2] at h
      cases h
      obtain ⟨fs, w, e1, e2, e3, e4⟩ := vFgW s.2 (r - 13) ci k v0 hb.2 e2
      refine ⟨fs, w, by rw [encWW, xl_n_app, if_neg (by rw [lenW13]; exact hr)]; exact e1, e2, ?_, ?_⟩
      · have := pUp_o (k := 13) e3
        rw [show 13 + (r - 13) = r by omega] at this
        exact this
      · intro z hz
        rcases v0 with z0 | z0 | q | j
        · cases hz; exact e4 z rfl
        · cases hz
        · cases hz
        · cases hz
theorem xl_s_app {α : Type} : ∀ (a b : List α) (k : Nat) (x : α), k < a.length → xl_s (a ++ b) k x = xl_s a k x ++ b := by
  intro a b k x h
  rw [xl_s_eq, xl_s_eq, List.set_append_left _ _ h]
theorem vFpWW : vFp encWW bdWW fpWW := by
  intro s r ci k z s' hb hz h
  unfold fpWW at h
  obtain ⟨h1, h2⟩ := bN h
  have hr : r < 13 := Nat.le_of_ble_eq_true h1
  cases e : fpW s.1 r ci k z with
  | none => rw [e] at h2; cases h2
  | some w =>
    rw [e] at h2
    cases h2
    obtain ⟨fs, e1, e2, e3, e4⟩ := vFpW s.1 r ci k z w hb.1 hz e
    refine ⟨fs, by rw [encWW, xl_n_app, if_pos (by rw [lenW13]; exact hr)]; exact e1, e2, ?_, e4, hb.2⟩
    show encW w ++ encW s.2 = xl_s (encW s.1 ++ encW s.2) r _
    rw [xl_s_app _ _ _ _ (by rw [lenW13]; exact hr), e3]
theorem lenWW (s s' : WWS) : (encWW s').length = (encWW s).length := rfl
def piWW (q : Nat) : Nat → Nat := fun k => bif Nat.blt k 2 then q + k else q + 11 + k
theorem lkWW : ∀ (q t : Nat), tixW q = some t → vLk encWW bdWW (encTT (rmT t) (wdT t) (rmT t) (wdT t)) (bdTT (rmT t) (wdT t) (rmT t) (wdT t)) (piWW q) (fun s => (s.1.2 t, s.2.2 t)) (fun s b => (setT s.1 t b.1, setT s.2 t b.2)) ∧ ∀ s, ∃ fs, xl_n (encWW s) (piWW q 0) = some (.inr (0, fs)) := by
  intro q t ht
  have hm := rmT_b ht
  have hinj : ∀ i j, i < 4 → j < 4 → piWW q i = piWW q j → i = j := by
    intro i j hi hj e
    have key : ∀ k, k < 4 → piWW q k = q + (if k < 2 then k else 11 + k) := by
      intro k hk
      match k, hk with
      | 0, _ => rfl
      | 1, _ => rfl
      | 2, _ => rfl
      | 3, _ => rfl
    rw [key i hi, key j hj] at e
    split at e <;> split at e <;> omega
  have hok : ∀ (s : TTS) (j : Nat) (c : XE), (encTT (rmT t) (wdT t) (rmT t) (wdT t) s)[j]? = some c → xl_ok (piWW q) j c := by
    intro s j c h
    match j, h with
    | 0, h => cases h; exact fun aC ρ σ => rfl
    | 1, h => cases h; exact fun aC ρ σ => rfl
    | 2, h => cases h; exact fun aC ρ σ => rfl
    | 3, h => cases h; exact fun aC ρ σ => rfl
    | j + 4, h => cases h
  rcases tixW_inv ht with ⟨rfl, rfl⟩ | ⟨rfl, rfl⟩ | ⟨rfl, rfl⟩ | ⟨rfl, rfl⟩ | ⟨rfl, rfl⟩ | ⟨rfl, rfl⟩
  · refine ⟨⟨fun s hb => ⟨⟨⟨hm, hb.1.2 0⟩, ⟨hm, hb.2.2 0⟩⟩, ⟨hinj, fun j hj => ?_⟩, hok _⟩, fun s s' hb hb' => ⟨⟨bdW_set hb.1 hb'.1, bdW_set hb.2 hb'.2⟩, rfl, ⟨rfl, fun j hj => ?_, fun k hk => ?_⟩, hok _⟩⟩, fun s => ⟨_, rfl⟩⟩
    · match j, hj with
      | 0, _ => exact ⟨rfl, Nat.le_of_ble_eq_true rfl⟩
      | 1, _ => exact ⟨rfl, Nat.le_of_ble_eq_true rfl⟩
      | 2, _ => exact ⟨rfl, Nat.le_of_ble_eq_true rfl⟩
      | 3, _ => exact ⟨rfl, Nat.le_of_ble_eq_true rfl⟩
      | j + 4, hj => exact absurd (show j + 4 < 4 from hj) (by omega)
    · match j, hj with
      | 0, _ => rfl
      | 1, _ => rfl
      | 2, _ => rfl
      | 3, _ => rfl
      | j + 4, hj => exact absurd (show j + 4 < 4 from hj) (by omega)
    · match k, hk with
      | 0, _ => rfl
      | 1, hk => exact absurd rfl (hk 0 (Nat.le_of_ble_eq_true rfl))
      | 2, hk => exact absurd rfl (hk 1 (Nat.le_of_ble_eq_true rfl))
      | 3, _ => rfl
      | 4, _ => rfl
      | 5, _ => rfl
      | 6, _ => rfl
      | 7, _ => rfl
      | 8, _ => rfl
      | 9, _ => rfl
      | 10, _ => rfl
      | 11, _ => rfl
      | 12, _ => rfl
      | 13, _ => rfl
      | 14, hk => exact absurd rfl (hk 2 (Nat.le_of_ble_eq_true rfl))
      | 15, hk => exact absurd rfl (hk 3 (Nat.le_of_ble_eq_true rfl))
      | 16, _ => rfl
      | 17, _ => rfl
      | 18, _ => rfl
      | 19, _ => rfl
      | 20, _ => rfl
      | 21, _ => rfl
      | 22, _ => rfl
      | 23, _ => rfl
      | 24, _ => rfl
      | 25, _ => rfl
      | k + 26, _ => rfl
  · refine ⟨⟨fun s hb => ⟨⟨⟨hm, hb.1.2 1⟩, ⟨hm, hb.2.2 1⟩⟩, ⟨hinj, fun j hj => ?_⟩, hok _⟩, fun s s' hb hb' => ⟨⟨bdW_set hb.1 hb'.1, bdW_set hb.2 hb'.2⟩, rfl, ⟨rfl, fun j hj => ?_, fun k hk => ?_⟩, hok _⟩⟩, fun s => ⟨_, rfl⟩⟩
    · match j, hj with
      | 0, _ => exact ⟨rfl, Nat.le_of_ble_eq_true rfl⟩
      | 1, _ => exact ⟨rfl, Nat.le_of_ble_eq_true rfl⟩
      | 2, _ => exact ⟨rfl, Nat.le_of_ble_eq_true rfl⟩
      | 3, _ => exact ⟨rfl, Nat.le_of_ble_eq_true rfl⟩
      | j + 4, hj => exact absurd (show j + 4 < 4 from hj) (by omega)
    · match j, hj with
      | 0, _ => rfl
      | 1, _ => rfl
      | 2, _ => rfl
      | 3, _ => rfl
      | j + 4, hj => exact absurd (show j + 4 < 4 from hj) (by omega)
    · match k, hk with
      | 0, _ => rfl
      | 1, _ => rfl
      | 2, _ => rfl
      | 3, hk => exact absurd rfl (hk 0 (Nat.le_of_ble_eq_true rfl))
      | 4, hk => exact absurd rfl (hk 1 (Nat.le_of_ble_eq_true rfl))
      | 5, _ => rfl
      | 6, _ => rfl
      | 7, _ => rfl
      | 8, _ => rfl
      | 9, _ => rfl
      | 10, _ => rfl
      | 11, _ => rfl
      | 12, _ => rfl
      | 13, _ => rfl
      | 14, _ => rfl
      | 15, _ => rfl
      | 16, hk => exact absurd rfl (hk 2 (Nat.le_of_ble_eq_true rfl))
      | 17, hk => exact absurd rfl (hk 3 (Nat.le_of_ble_eq_true rfl))
      | 18, _ => rfl
      | 19, _ => rfl
      | 20, _ => rfl
      | 21, _ => rfl
      | 22, _ => rfl
      | 23, _ => rfl
      | 24, _ => rfl
      | 25, _ => rfl
      | k + 26, _ => rfl
  · refine ⟨⟨fun s hb => ⟨⟨⟨hm, hb.1.2 2⟩, ⟨hm, hb.2.2 2⟩⟩, ⟨hinj, fun j hj => ?_⟩, hok _⟩, fun s s' hb hb' => ⟨⟨bdW_set hb.1 hb'.1, bdW_set hb.2 hb'.2⟩, rfl, ⟨rfl, fun j hj => ?_, fun k hk => ?_⟩, hok _⟩⟩, fun s => ⟨_, rfl⟩⟩
    · match j, hj with
      | 0, _ => exact ⟨rfl, Nat.le_of_ble_eq_true rfl⟩
      | 1, _ => exact ⟨rfl, Nat.le_of_ble_eq_true rfl⟩
      | 2, _ => exact ⟨rfl, Nat.le_of_ble_eq_true rfl⟩
      | 3, _ => exact ⟨rfl, Nat.le_of_ble_eq_true rfl⟩
      | j + 4, hj => exact absurd (show j + 4 < 4 from hj) (by omega)
    · match j, hj with
      | 0, _ => rfl
      | 1, _ => rfl
      | 2, _ => rfl
      | 3, _ => rfl
      | j + 4, hj => exact absurd (show j + 4 < 4 from hj) (by omega)
    · match k, hk with
      | 0, _ => rfl
      | 1, _ => rfl
      | 2, _ => rfl
      | 3, _ => rfl
      | 4, _ => rfl
      | 5, hk => exact absurd rfl (hk 0 (Nat.le_of_ble_eq_true rfl))
      | 6, hk => exact absurd rfl (hk 1 (Nat.le_of_ble_eq_true rfl))
      | 7, _ => rfl
      | 8, _ => rfl
      | 9, _ => rfl
      | 10, _ => rfl
      | 11, _ => rfl
      | 12, _ => rfl
      | 13, _ => rfl
      | 14, _ => rfl
      | 15, _ => rfl
      | 16, _ => rfl
      | 17, _ => rfl
      | 18, hk => exact absurd rfl (hk 2 (Nat.le_of_ble_eq_true rfl))
      | 19, hk => exact absurd rfl (hk 3 (Nat.le_of_ble_eq_true rfl))
      | 20, _ => rfl
      | 21, _ => rfl
      | 22, _ => rfl
      | 23, _ => rfl
      | 24, _ => rfl
      | 25, _ => rfl
      | k + 26, _ => rfl
  · refine ⟨⟨fun s hb => ⟨⟨⟨hm, hb.1.2 3⟩, ⟨hm, hb.2.2 3⟩⟩, ⟨hinj, fun j hj => ?_⟩, hok _⟩, fun s s' hb hb' => ⟨⟨bdW_set hb.1 hb'.1, bdW_set hb.2 hb'.2⟩, rfl, ⟨rfl, fun j hj => ?_, fun k hk => ?_⟩, hok _⟩⟩, fun s => ⟨_, rfl⟩⟩
    · match j, hj with
      | 0, _ => exact ⟨rfl, Nat.le_of_ble_eq_true rfl⟩
      | 1, _ => exact ⟨rfl, Nat.le_of_ble_eq_true rfl⟩
      | 2, _ => exact ⟨rfl, Nat.le_of_ble_eq_true rfl⟩
      | 3, _ => exact ⟨rfl, Nat.le_of_ble_eq_true rfl⟩
      | j + 4, hj => exact absurd (show j + 4 < 4 from hj) (by omega)
    · match j, hj with
      | 0, _ => rfl
      | 1, _ => rfl
      | 2, _ => rfl
      | 3, _ => rfl
      | j + 4, hj => exact absurd (show j + 4 < 4 from hj) (by omega)
    · match k, hk with
      | 0, _ => rfl
      | 1, _ => rfl
      | 2, _ => rfl
      | 3, _ => rfl
      | 4, _ => rfl
      | 5, _ => rfl
      | 6, _ => rfl
      | 7, hk => exact absurd rfl (hk 0 (Nat.le_of_ble_eq_true rfl))
      | 8, hk => exact absurd rfl (hk 1 (Nat.le_of_ble_eq_true rfl))
      | 9, _ => rfl
      | 10, _ => rfl
      | 11, _ => rfl
      | 12, _ => rfl
      | 13, _ => rfl
      | 14, _ => rfl
      | 15, _ => rfl
      | 16, _ => rfl
      | 17, _ => rfl
      | 18, _ => rfl
      | 19, _ => rfl
      | 20, hk => exact absurd rfl (hk 2 (Nat.le_of_ble_eq_true rfl))
      | 21, hk => exact absurd rfl (hk 3 (Nat.le_of_ble_eq_true rfl))
      | 22, _ => rfl
      | 23, _ => rfl
      | 24, _ => rfl
      | 25, _ => rfl
      | k + 26, _ => rfl
  · refine ⟨⟨fun s hb => ⟨⟨⟨hm, hb.1.2 4⟩, ⟨hm, hb.2.2 4⟩⟩, ⟨hinj, fun j hj => ?_⟩, hok _⟩, fun s s' hb hb' => ⟨⟨bdW_set hb.1 hb'.1, bdW_set hb.2 hb'.2⟩, rfl, ⟨rfl, fun j hj => ?_, fun k hk => ?_⟩, hok _⟩⟩, fun s => ⟨_, rfl⟩⟩
    · match j, hj with
      | 0, _ => exact ⟨rfl, Nat.le_of_ble_eq_true rfl⟩
      | 1, _ => exact ⟨rfl, Nat.le_of_ble_eq_true rfl⟩
      | 2, _ => exact ⟨rfl, Nat.le_of_ble_eq_true rfl⟩
      | 3, _ => exact ⟨rfl, Nat.le_of_ble_eq_true rfl⟩
      | j + 4, hj => exact absurd (show j + 4 < 4 from hj) (by omega)
    · match j, hj with
      | 0, _ => rfl
      | 1, _ => rfl
      | 2, _ => rfl
      | 3, _ => rfl
      | j + 4, hj => exact absurd (show j + 4 < 4 from hj) (by omega)
    · match k, hk with
      | 0, _ => rfl
      | 1, _ => rfl
      | 2, _ => rfl
      | 3, _ => rfl
      | 4, _ => rfl
      | 5, _ => rfl
      | 6, _ => rfl
      | 7, _ => rfl
      | 8, _ => rfl
      | 9, hk => exact absurd rfl (hk 0 (Nat.le_of_ble_eq_true rfl))
      | 10, hk => exact absurd rfl (hk 1 (Nat.le_of_ble_eq_true rfl))
      | 11, _ => rfl
      | 12, _ => rfl
      | 13, _ => rfl
      | 14, _ => rfl
      | 15, _ => rfl
      | 16, _ => rfl
      | 17, _ => rfl
      | 18, _ => rfl
      | 19, _ => rfl
      | 20, _ => rfl
      | 21, _ => rfl
      | 22, hk => exact absurd rfl (hk 2 (Nat.le_of_ble_eq_true rfl))
      | 23, hk => exact absurd rfl (hk 3 (Nat.le_of_ble_eq_true rfl))
      | 24, _ => rfl
      | 25, _ => rfl
      | k + 26, _ => rfl
  · refine ⟨⟨fun s hb => ⟨⟨⟨hm, hb.1.2 5⟩, ⟨hm, hb.2.2 5⟩⟩, ⟨hinj, fun j hj => ?_⟩, hok _⟩, fun s s' hb hb' => ⟨⟨bdW_set hb.1 hb'.1, bdW_set hb.2 hb'.2⟩, rfl, ⟨rfl, fun j hj => ?_, fun k hk => ?_⟩, hok _⟩⟩, fun s => ⟨_, rfl⟩⟩
    · match j, hj with
      | 0, _ => exact ⟨rfl, Nat.le_of_ble_eq_true rfl⟩
      | 1, _ => exact ⟨rfl, Nat.le_of_ble_eq_true rfl⟩
      | 2, _ => exact ⟨rfl, Nat.le_of_ble_eq_true rfl⟩
      | 3, _ => exact ⟨rfl, Nat.le_of_ble_eq_true rfl⟩
      | j + 4, hj => exact absurd (show j + 4 < 4 from hj) (by omega)
    · match j, hj with
      | 0, _ => rfl
      | 1, _ => rfl
      | 2, _ => rfl
      | 3, _ => rfl
      | j + 4, hj => exact absurd (show j + 4 < 4 from hj) (by omega)
    · match k, hk with
      | 0, _ => rfl
      | 1, _ => rfl
      | 2, _ => rfl
      | 3, _ => rfl
      | 4, _ => rfl
      | 5, _ => rfl
      | 6, _ => rfl
      | 7, _ => rfl
      | 8, _ => rfl
      | 9, _ => rfl
      | 10, _ => rfl
      | 11, hk => exact absurd rfl (hk 0 (Nat.le_of_ble_eq_true rfl))
      | 12, hk => exact absurd rfl (hk 1 (Nat.le_of_ble_eq_true rfl))
      | 13, _ => rfl
      | 14, _ => rfl
      | 15, _ => rfl
      | 16, _ => rfl
      | 17, _ => rfl
      | 18, _ => rfl
      | 19, _ => rfl
      | 20, _ => rfl
      | 21, _ => rfl
      | 22, _ => rfl
      | 23, _ => rfl
      | 24, hk => exact absurd rfl (hk 2 (Nat.le_of_ble_eq_true rfl))
      | 25, hk => exact absurd rfl (hk 3 (Nat.le_of_ble_eq_true rfl))
      | k + 26, _ => rfl
def wTC (a b : WS) (t : Nat) : WS := setT a t ((b.2 t).1, xcp (b.2 t).2 (a.2 t).2 0 0 ((b.2 t).1 * wdT t).toNat)
def cWW_X0_copyFrom : Sp WWS := fun as s K => match as with
  | [.inr (.inr (.inl q)), .inr (.inr (.inl q2))] => match tixW q with
    | some t => bif Nat.beq q2 (q + 13) then ((0 ≤ wZ s.2 t ∧ wZ s.2 t ≤ rmT t) ∧ K [] (wTC s.1 s.2 t, s.2)) else False
    | none => False
  | _ => False
theorem qWW_X0_copyFrom {M : XI} {rc rs pc pc2 : Nat} (d : xl_Ca M pc mX0_copyFrom pc2) : cOk encWW bdWW M rc rs pc pc2 2 cWW_X0_copyFrom := by
  intro as L st s K Q hl hw hb hs hk
  unfold cWW_X0_copyFrom at hs
  split at hs
  · next q q2 =>
    split at hs
    · next t ht =>
      obtain ⟨e, h1⟩ := condT hs
      have e := nB e
      subst e
      exact (cVirt (sp := fun as s K => as = [pR q, pR (q + 13)] ∧ (0 ≤ wZ s.2 t ∧ wZ s.2 t ≤ rmT t) ∧ K [] (wTC s.1 s.2 t, s.2)) (mX0_copyFrom_ok (rmT t) (wdT t)) vX0_copyFrom d tcl rfl (fun as2 s2 K2 hb2 h2 => by
        obtain ⟨e, h3, h4⟩ := h2
        refine ⟨_, _, _, [pR 2], (lkWW q t ht).1, (lkWW q t ht).2 s2, by rw [e]; rfl, ⟨h3, ?_⟩⟩
        show K2 [] (setT s2.1 t ((s2.2.2 t).1, xcp (s2.2.2 t).2 (s2.1.2 t).2 0 0 ((s2.2.2 t).1 * wdT t).toNat), setT s2.2 t (s2.2.2 t))
        rw [setT_self]
        exact h4)) _ L st s K Q hl hw hb ⟨rfl, h1⟩ hk
    · exact hs.elim
  · exact hs.elim
-- X1_copyFrom: heads []
def tX1_copyFrom : Nat → Blk WWS := fun pc => bif Nat.blt pc 5 then (bif Nat.beq pc 0 then (oAld 1 <| oNN 5) else oNo) else (bif Nat.beq pc 5 then (oAld 0 <| oAld 1 <| oGet (fgWW) 1 0 <| oPut (fpWW) 1 0 <| oAld 0 <| oAld 1 <| oGet (fgWW) 1 1 <| oPut (fpWW) 1 1 <| oAld 0 <| oAld 1 <| oGet (fgWW) 1 2 <| oPut (fpWW) 1 2 <| oAld 0 <| oAld 1 <| oGet (fgWW) 1 3 <| oPut (fpWW) 1 3 <| oAld 0 <| oAld 1 <| oGet (fgWW) 1 4 <| oPut (fpWW) 1 4 <| oAld 0 <| oAld 1 <| oGet (fgWW) 1 5 <| oPut (fpWW) 1 5 <| oAld 0 <| oAld 1 <| oGet (fgWW) 1 6 <| oPut (fpWW) 1 6 <| oAld 0 <| oAld 1 <| oGet (fgWW) 1 7 <| oPut (fpWW) 1 7 <| oAld 0 <| oAld 1 <| oGet (fgWW) 1 8 <| oPut (fpWW) 1 8 <| oAld 0 <| oAld 1 <| oGet (fgWW) 1 9 <| oPut (fpWW) 1 9 <| oAld 0 <| oGet (fgWW) 1 10 <| oAld 1 <| oGet (fgWW) 1 10 <| oC2 (cWW_X0_copyFrom) <| oAld 0 <| oGet (fgWW) 1 11 <| oAld 1 <| oGet (fgWW) 1 11 <| oC2 (cWW_X0_copyFrom) <| oAld 0 <| oGet (fgWW) 1 12 <| oAld 1 <| oGet (fgWW) 1 12 <| oC2 (cWW_X0_copyFrom) <| oAld 0 <| oGet (fgWW) 1 13 <| oAld 1 <| oGet (fgWW) 1 13 <| oC2 (cWW_X0_copyFrom) <| oAld 0 <| oGet (fgWW) 1 14 <| oAld 1 <| oGet (fgWW) 1 14 <| oC2 (cWW_X0_copyFrom) <| oAld 0 <| oGet (fgWW) 1 15 <| oAld 1 <| oGet (fgWW) 1 15 <| oC2 (cWW_X0_copyFrom) <| oVret) else oNo)
theorem tX1_copyFrom_ok : ∀ pc, bOk (encWW) (bdWW) mX1_copyFrom 0 0 pc (tX1_copyFrom pc) := fun pc => (tNode (tLeaf (okAldn iX1_copyFrom_0 rfl <| okNN (tl rfl) iX1_copyFrom_1)) (tLeaf (okAldn iX1_copyFrom_5 rfl <| okAldn iX1_copyFrom_6 rfl <| okGet (vFgWW) iX1_copyFrom_7 <| okPut (vFpWW) iX1_copyFrom_10 <| okAldn iX1_copyFrom_13 rfl <| okAldn iX1_copyFrom_14 rfl <| okGet (vFgWW) iX1_copyFrom_15 <| okPut (vFpWW) iX1_copyFrom_18 <| okAldn iX1_copyFrom_21 rfl <| okAldn iX1_copyFrom_22 rfl <| okGet (vFgWW) iX1_copyFrom_23 <| okPut (vFpWW) iX1_copyFrom_26 <| okAldn iX1_copyFrom_29 rfl <| okAldn iX1_copyFrom_30 rfl <| okGet (vFgWW) iX1_copyFrom_31 <| okPut (vFpWW) iX1_copyFrom_34 <| okAldn iX1_copyFrom_37 rfl <| okAldn iX1_copyFrom_38 rfl <| okGet (vFgWW) iX1_copyFrom_39 <| okPut (vFpWW) iX1_copyFrom_42 <| okAldn iX1_copyFrom_45 rfl <| okAldn iX1_copyFrom_46 rfl <| okGet (vFgWW) iX1_copyFrom_47 <| okPut (vFpWW) iX1_copyFrom_50 <| okAldn iX1_copyFrom_53 rfl <| okAldn iX1_copyFrom_54 rfl <| okGet (vFgWW) iX1_copyFrom_55 <| okPut (vFpWW) iX1_copyFrom_58 <| okAldn iX1_copyFrom_61 rfl <| okAldn iX1_copyFrom_62 rfl <| okGet (vFgWW) iX1_copyFrom_63 <| okPut (vFpWW) iX1_copyFrom_66 <| okAldn iX1_copyFrom_69 rfl <| okAldn iX1_copyFrom_70 rfl <| okGet (vFgWW) iX1_copyFrom_71 <| okPut (vFpWW) iX1_copyFrom_74 <| okAldn iX1_copyFrom_77 rfl <| okAldn iX1_copyFrom_78 rfl <| okGet (vFgWW) iX1_copyFrom_79 <| okPut (vFpWW) iX1_copyFrom_82 <| okAldn iX1_copyFrom_85 rfl <| okGet (vFgWW) iX1_copyFrom_86 <| okAldn iX1_copyFrom_89 rfl <| okGet (vFgWW) iX1_copyFrom_90 <| okC2 (qWW_X0_copyFrom iX1_copyFrom_93) <| okAldn iX1_copyFrom_96 rfl <| okGet (vFgWW) iX1_copyFrom_97 <| okAldn iX1_copyFrom_100 rfl <| okGet (vFgWW) iX1_copyFrom_101 <| okC2 (qWW_X0_copyFrom iX1_copyFrom_104) <| okAldn iX1_copyFrom_107 rfl <| okGet (vFgWW) iX1_copyFrom_108 <| okAldn iX1_copyFrom_111 rfl <| okGet (vFgWW) iX1_copyFrom_112 <| okC2 (qWW_X0_copyFrom iX1_copyFrom_115) <| okAldn iX1_copyFrom_118 rfl <| okGet (vFgWW) iX1_copyFrom_119 <| okAldn iX1_copyFrom_122 rfl <| okGet (vFgWW) iX1_copyFrom_123 <| okC2 (qWW_X0_copyFrom iX1_copyFrom_126) <| okAldn iX1_copyFrom_129 rfl <| okGet (vFgWW) iX1_copyFrom_130 <| okAldn iX1_copyFrom_133 rfl <| okGet (vFgWW) iX1_copyFrom_134 <| okC2 (qWW_X0_copyFrom iX1_copyFrom_137) <| okAldn iX1_copyFrom_140 rfl <| okGet (vFgWW) iX1_copyFrom_141 <| okAldn iX1_copyFrom_144 rfl <| okGet (vFgWW) iX1_copyFrom_145 <| okC2 (qWW_X0_copyFrom iX1_copyFrom_148) <| okVret iX1_copyFrom_151 rfl))) pc
def wCopy (a b : WS) : WS := wTC (wTC (wTC (wTC (wTC (wTC (wFd (wFd (wFd (wFd (wFd (wFd (wFd (wFd (wFd (wFd a 0 (b.1 0)) 1 (b.1 1)) 2 (b.1 2)) 3 (b.1 3)) 4 (b.1 4)) 5 (b.1 5)) 6 (b.1 6)) 7 (b.1 7)) 8 (b.1 8)) 9 (b.1 9)) b 0) b 1) b 2) b 3) b 4) b 5
def sX1_copyFrom : List PV → WWS → KWW → Prop := fun as s K => match as with
  | [.inr (.inr (.inl 13))] => wok s.2 ∧ K [] (wCopy s.1 s.2, s.2)
  | _ => False
theorem mX1_copyFrom_ok : mOk encWW bdWW mX1_copyFrom (atR 0 sX1_copyFrom) := by
  refine mOk_of kX1_copyFrom (fun as s K h => ?_)
  obtain ⟨as, rfl, h1⟩ := atR_inv h
  unfold sX1_copyFrom at h1
  split at h1
  · refine ⟨rfl, fun hb => wx_J [] 9 tX1_copyFrom_ok rfl (fun J hR hJ => ?_)⟩
    obtain ⟨h2, hK⟩ := h1
    have k0 := h2 0 (by decide)
    have k1 := h2 1 (by decide)
    have k2 := h2 2 (by decide)
    have k3 := h2 3 (by decide)
    have k4 := h2 4 (by decide)
    have k5 := h2 5 (by decide)
    repeat' (first | exact k0 | exact k1 | exact k2 | exact k3 | exact k4 | exact k5 | (refine And.intro ?_ ?_) | intro _)
    all_goals first | omega | exact hR _ _ hK
  · exact h1.elim
theorem wok_TC {a b : WS} {t : Nat} (ht : t < 6) (h : wok a) (hb : wok b) : wok (wTC a b t) := wok_set h (hb t ht)
theorem wok_Copy {a b : WS} (h : wok a) (hb : wok b) : wok (wCopy a b) := by
  unfold wCopy
  exact wok_TC (by decide) (wok_TC (by decide) (wok_TC (by decide) (wok_TC (by decide) (wok_TC (by decide) (wok_TC (by decide) h hb) hb) hb) hb) hb) hb
