/-! ===== the law, whole ===== -/
set_option maxRecDepth 100000 in
theorem law_all {N : Nat} {z : Nat → Int} (hN : N ≤ 5) (hz : ∀ j, xB (z j)) : xn_W (some (N, fun j => iI (z j), xt_E)) 0 mL_law 600002 7302232 0 [some (.float 99), none, none, none, none, none, none, none] [] [] (fun v _ => v = some (some (xi 1))) := by
  refine xn_wid (rc := 1 + 1 + 12 + 1 + 136 + 1) (rs := 6 + 1 + 31669 + 23 + 30305 + 13) (Nat.le_of_ble_eq_true rfl) (Nat.le_of_ble_eq_true rfl) (law_pro (rc := 1) (rs := 6) (fun hb1 hb2 => ?_))
  by_cases h : N = 5
  · subst h
    refine law_at (rc := 0) (rs := 0) 0 (by decide) (by decide) s1 m1 (fun _ => 0) hb1 hb2 hz (Post := fun _ _ => True) (fun k hk _ => ev_all z hz k) (fun x' m' out' _ _ _ => ?_)
    exact law_end (0 + 5) (by decide) (by decide) (by decide) _ rfl
  · exact law_end 0 (by omega) (by decide) (by omega) _ rfl
