/-! ===== the model: numbers by their fields (0 thrown, 1 told, 4 taped, 5 at, 6 to, 8 undos, 10 doneLast, 11 doneKey, 12 meltedWith, 19 timed, 21 random), arrays by their places (1 row, 2 tape, 3 mem, 4 fresh, 5 readKey, 6 readTime, 7 readValue, 8 readSource, 9 times, 10 values, 11 act, 12 isKept) ===== -/
abbrev MS : Type := (Nat → Int) × (Nat → Nat → Int)
abbrev KM : Type := PS → MS → Prop
def encM (s : MS) : XH := [xO 3 [xi (s.1 0), xi (s.1 1), .ref 1, .ref 2, xi (s.1 4), xi (s.1 5), xi (s.1 6), .ref 3, xi (s.1 8), .ref 4, xi (s.1 10), xi (s.1 11), xi (s.1 12), .ref 5, .ref 6, .ref 7, .ref 8, .ref 9, .ref 10, xi (s.1 19), .ref 11, xi (s.1 21), .ref 12], xL 16 (s.2 1), xA 80 (s.2 2), xA 30844 (s.2 3), xA 7 (s.2 4), xA 80 (s.2 5), xA 80 (s.2 6), xA 80 (s.2 7), xA 80 (s.2 8), xA 160 (s.2 9), xA 160 (s.2 10), xA 80 (s.2 11), xZ 2 (s.2 12)]
def bdM (s : MS) : Prop := (∀ k, xB (s.1 k)) ∧ ∀ a k, xB (s.2 a k)
def fgM : FG MS := fun s r ci k => bif Nat.beq r 0 then (bif Nat.beq ci 3 then xl_n [pI (s.1 0), pI (s.1 1), pR 1, pR 2, pI (s.1 4), pI (s.1 5), pI (s.1 6), pR 3, pI (s.1 8), pR 4, pI (s.1 10), pI (s.1 11), pI (s.1 12), pR 5, pR 6, pR 7, pR 8, pR 9, pR 10, pI (s.1 19), pR 11, pI (s.1 21), pR 12] k else none) else none
def mS (s : MS) (k : Nat) (v : Int) : MS := (fun j => bif Nat.beq j k then v else s.1 j, s.2)
def mA (s : MS) (a : Nat) (g : Nat → Int) : MS := (s.1, fun j => bif Nat.beq j a then g else s.2 j)
def fpM : FP MS := fun s r ci k z => bif Nat.beq r 0 then (bif Nat.beq ci 3 then (match xl_n [true, true, false, false, true, true, true, false, true, false, true, true, true, false, false, false, false, false, false, true, false, true, false] k with
  | some true => some (mS s k z)
  | _ => none) else none) else none
def agM : AG MS := fun s r => match xl_n [none, some (1, 16, s.2 1), some (0, 80, s.2 2), some (0, 30844, s.2 3), some (0, 7, s.2 4), some (0, 80, s.2 5), some (0, 80, s.2 6), some (0, 80, s.2 7), some (0, 80, s.2 8), some (0, 160, s.2 9), some (0, 160, s.2 10), some (0, 80, s.2 11), some (2, 2, s.2 12)] r with
  | some x => x
  | none => none
def apM : AP MS := fun s r g => mA s r g
theorem bdM_S {s : MS} {k : Nat} {v : Int} (hb : bdM s) (hv : xB v) : bdM (mS s k v) := by
  refine ⟨fun j => ?_, hb.2⟩
  show xB (bif Nat.beq j k then v else s.1 j)
  cases Nat.beq j k with
  | true => exact hv
  | false => exact hb.1 j
theorem bdM_A {s : MS} {a : Nat} {g : Nat → Int} (hb : bdM s) (hv : ∀ k, xB (g k)) : bdM (mA s a g) := by
  refine ⟨hb.1, fun j => ?_⟩
  show ∀ k, xB ((bif Nat.beq j a then g else s.2 j) k)
  cases Nat.beq j a with
  | true => exact hv
  | false => exact hb.2 j
theorem vFgM : vFg encM bdM fgM := by
  intro s r ci k v hb h
  obtain ⟨h1, g1⟩ := bN h
  obtain ⟨h2, g2⟩ := bN g1
  clear h g1
  have h1 := nB h1
  have h2 := nB h2
  subst h1; subst h2
  match k, g2 with
  | 0, g2 => cases g2; exact ⟨_, _, rfl, rfl, rfl, fun z e => by cases e; exact hb.1 0⟩
  | 1, g2 => cases g2; exact ⟨_, _, rfl, rfl, rfl, fun z e => by cases e; exact hb.1 1⟩
  | 2, g2 => cases g2; exact ⟨_, _, rfl, rfl, rfl, fun z e => by cases e⟩
  | 3, g2 => cases g2; exact ⟨_, _, rfl, rfl, rfl, fun z e => by cases e⟩
  | 4, g2 => cases g2; exact ⟨_, _, rfl, rfl, rfl, fun z e => by cases e; exact hb.1 4⟩
  | 5, g2 => cases g2; exact ⟨_, _, rfl, rfl, rfl, fun z e => by cases e; exact hb.1 5⟩
  | 6, g2 => cases g2; exact ⟨_, _, rfl, rfl, rfl, fun z e => by cases e; exact hb.1 6⟩
  | 7, g2 => cases g2; exact ⟨_, _, rfl, rfl, rfl, fun z e => by cases e⟩
  | 8, g2 => cases g2; exact ⟨_, _, rfl, rfl, rfl, fun z e => by cases e; exact hb.1 8⟩
  | 9, g2 => cases g2; exact ⟨_, _, rfl, rfl, rfl, fun z e => by cases e⟩
  | 10, g2 => cases g2; exact ⟨_, _, rfl, rfl, rfl, fun z e => by cases e; exact hb.1 10⟩
  | 11, g2 => cases g2; exact ⟨_, _, rfl, rfl, rfl, fun z e => by cases e; exact hb.1 11⟩
  | 12, g2 => cases g2; exact ⟨_, _, rfl, rfl, rfl, fun z e => by cases e; exact hb.1 12⟩
  | 13, g2 => cases g2; exact ⟨_, _, rfl, rfl, rfl, fun z e => by cases e⟩
  | 14, g2 => cases g2; exact ⟨_, _, rfl, rfl, rfl, fun z e => by cases e⟩
  | 15, g2 => cases g2; exact ⟨_, _, rfl, rfl, rfl, fun z e => by cases e⟩
  | 16, g2 => cases g2; exact ⟨_, _, rfl, rfl, rfl, fun z e => by cases e⟩
  | 17, g2 => cases g2; exact ⟨_, _, rfl, rfl, rfl, fun z e => by cases e⟩
  | 18, g2 => cases g2; exact ⟨_, _, rfl, rfl, rfl, fun z e => by cases e⟩
  | 19, g2 => cases g2; exact ⟨_, _, rfl, rfl, rfl, fun z e => by cases e; exact hb.1 19⟩
  | 20, g2 => cases g2; exact ⟨_, _, rfl, rfl, rfl, fun z e => by cases e⟩
  | 21, g2 => cases g2; exact ⟨_, _, rfl, rfl, rfl, fun z e => by cases e; exact hb.1 21⟩
  | 22, g2 => cases g2; exact ⟨_, _, rfl, rfl, rfl, fun z e => by cases e⟩
theorem vFpM : vFp encM bdM fpM := by
  intro s r ci k z s' hb hz h
  obtain ⟨h1, g1⟩ := bN h
  obtain ⟨h2, g2⟩ := bN g1
  clear h g1
  have h1 := nB h1
  have h2 := nB h2
  subst h1; subst h2
  match k, g2 with
  | 0, g2 => cases g2; exact ⟨_, rfl, Nat.le_of_ble_eq_true rfl, rfl, bdM_S hb hz⟩
  | 1, g2 => cases g2; exact ⟨_, rfl, Nat.le_of_ble_eq_true rfl, rfl, bdM_S hb hz⟩
  | 4, g2 => cases g2; exact ⟨_, rfl, Nat.le_of_ble_eq_true rfl, rfl, bdM_S hb hz⟩
  | 5, g2 => cases g2; exact ⟨_, rfl, Nat.le_of_ble_eq_true rfl, rfl, bdM_S hb hz⟩
  | 6, g2 => cases g2; exact ⟨_, rfl, Nat.le_of_ble_eq_true rfl, rfl, bdM_S hb hz⟩
  | 8, g2 => cases g2; exact ⟨_, rfl, Nat.le_of_ble_eq_true rfl, rfl, bdM_S hb hz⟩
  | 10, g2 => cases g2; exact ⟨_, rfl, Nat.le_of_ble_eq_true rfl, rfl, bdM_S hb hz⟩
  | 11, g2 => cases g2; exact ⟨_, rfl, Nat.le_of_ble_eq_true rfl, rfl, bdM_S hb hz⟩
  | 12, g2 => cases g2; exact ⟨_, rfl, Nat.le_of_ble_eq_true rfl, rfl, bdM_S hb hz⟩
  | 19, g2 => cases g2; exact ⟨_, rfl, Nat.le_of_ble_eq_true rfl, rfl, bdM_S hb hz⟩
  | 21, g2 => cases g2; exact ⟨_, rfl, Nat.le_of_ble_eq_true rfl, rfl, bdM_S hb hz⟩
  | 22, g2 => cases g2
  | k + 23, g2 => cases g2
theorem vAgM : vAg encM bdM agM apM := by
  intro s r t n g hb h
  match r, h with
  | 1, h => cases h; exact ⟨by decide, hb.2 1, rfl, fun g' hg => ⟨bdM_A hb hg, rfl⟩⟩
  | 2, h => cases h; exact ⟨by decide, hb.2 2, rfl, fun g' hg => ⟨bdM_A hb hg, rfl⟩⟩
  | 3, h => cases h; exact ⟨by decide, hb.2 3, rfl, fun g' hg => ⟨bdM_A hb hg, rfl⟩⟩
  | 4, h => cases h; exact ⟨by decide, hb.2 4, rfl, fun g' hg => ⟨bdM_A hb hg, rfl⟩⟩
  | 5, h => cases h; exact ⟨by decide, hb.2 5, rfl, fun g' hg => ⟨bdM_A hb hg, rfl⟩⟩
  | 6, h => cases h; exact ⟨by decide, hb.2 6, rfl, fun g' hg => ⟨bdM_A hb hg, rfl⟩⟩
  | 7, h => cases h; exact ⟨by decide, hb.2 7, rfl, fun g' hg => ⟨bdM_A hb hg, rfl⟩⟩
  | 8, h => cases h; exact ⟨by decide, hb.2 8, rfl, fun g' hg => ⟨bdM_A hb hg, rfl⟩⟩
  | 9, h => cases h; exact ⟨by decide, hb.2 9, rfl, fun g' hg => ⟨bdM_A hb hg, rfl⟩⟩
  | 10, h => cases h; exact ⟨by decide, hb.2 10, rfl, fun g' hg => ⟨bdM_A hb hg, rfl⟩⟩
  | 11, h => cases h; exact ⟨by decide, hb.2 11, rfl, fun g' hg => ⟨bdM_A hb hg, rfl⟩⟩
  | 12, h => cases h; exact ⟨by decide, hb.2 12, rfl, fun g' hg => ⟨bdM_A hb hg, rfl⟩⟩
theorem lenM (s s' : MS) : (encM s').length = (encM s).length := rfl
theorem recM (s : MS) : ∃ fs, xl_n (encM s) 0 = some (.inr (3, fs)) := ⟨_, rfl⟩
