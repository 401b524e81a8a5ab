/-! ===== the law, whole ===== -/
theorem law_run {N : Nat} {z : Nat → Int} (hN : N ≤ 3000) (hz : ∀ j, xB (z j)) : ∀ (n i : Nat) (x : LSt) (m : MS) (out : Nat → Int), bdL x → bdM m → lwR x m → N < i + 5 * n + 5 → i ≤ 3005 → xn_W (some (N, fun j => iI (z j), xt_E)) 0 mL_law n (6 * n) 23 (lwL i) [] (encZ x m out) (fun v _ => v = some (some (xi 1)))
  | 0, i, x, m, out, hbx, hbm, hR, hi, hi2 => law_end i (by omega) hi2 hN _ rfl
  | n + 1, i, x, m, out, hbx, hbm, hR, hi, hi2 => by
    by_cases c : i + 5 ≤ N
    · exact law_at (rc := n) (rs := 6 * n) i c hN x m out hbx hbm hz (Post := lwR) (fun k _ _ => rl_all hR (fun j => hz _) k) (fun x' m' out' h1 h2 h3 => law_run hN hz n (i + 5) x' m' out' h1 h2 h3 (by omega) (by omega))
    · exact law_end i (by omega) hi2 hN _ rfl
set_option maxRecDepth 100000 in
theorem law_all {N : Nat} {z : Nat → Int} (hN : N ≤ 2560) (hz : ∀ j, xB (z j)) : xn_W (some (N, fun j => iI (z j), xt_E)) 0 mL_law 1000 100000 0 [some (.float 99), none, none, none, none, none, none, none] [] [] (fun v _ => v = some (some (xi 1))) :=
  xn_wid (rc := 512 + 1 + 12 + 1 + 136 + 1) (rs := 3072 + 1 + 31669 + 23 + 30305 + 13) (Nat.le_of_ble_eq_true rfl) (Nat.le_of_ble_eq_true rfl) (law_pro (rc := 512) (rs := 3072) (fun hb1 hb2 => law_run (Nat.le_trans hN (by decide)) hz 512 0 s1 m1 (fun _ => 0) hb1 hb2 lwR1 (by omega) (by decide)))
