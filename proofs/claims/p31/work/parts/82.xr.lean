/-! ===== nothing points behind the cells: by looking ===== -/
def xn_vb (n : Nat) : Value → Bool := fun v => match v with
  | .ref k => bif Nat.beq k n then false else true
  | _ => true
theorem xn_vb_ok {n q : Nat} {ρ σ : Nat → Nat} {v : Value} (h : xn_vb n v = true) : xl_v (xn_up ρ n q) σ v = xl_v ρ σ v := by
  cases v with
  | ref k =>
    show Value.ref (bif Nat.beq k n then q else ρ k) = .ref (ρ k)
    have e : Nat.beq k n = false := by
      cases e : Nat.beq k n with
      | false => rfl
      | true =>
        have h : (bif Nat.beq k n then false else true) = true := h
        rw [e] at h
        cases h
    rw [e]
    rfl
  | _ => rfl
theorem xn_fr_of {n : Nat} {L : List (Option Value)} {st : List Value} {h : XH} (hs : ∀ v ∈ st, xn_vb n v = true) (hL : ∀ i v, xl_n L i = some (some v) → xn_vb n v = true) (hh : ∀ (aC : Nat → ClassId) (ρ σ : Nat → Nat) (q : Nat), xl_w aC (xn_up ρ n q) σ h = xl_w aC ρ σ h) : xn_fr n L st h :=
  fun ρ σ q => ⟨fun aC => hh aC ρ σ q, List.map_congr_left (fun v hv => xn_vb_ok (hs v hv)), fun N ls hl => ⟨hl.1, hl.2.1, fun i v e => by rw [xn_vb_ok (hL i v e)]; exact hl.2.2 i v e⟩⟩
