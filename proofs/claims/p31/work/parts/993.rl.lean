/-! ===== the law's relation is kept by every case (by program) ===== -/
section RL
variable {z : Nat → Int} {i : Nat} {x : LSt} {m : MS}
theorem rl_0 (h : lwR x m) (hz : ∀ j, xB (z (i + j))) : sX2_sign (z (i + 1)) x (fun v x' => ∃ q, v = [pI q] ∧ sX3_sign (z (i + 1)) m (fun w m' => (∃ q, w = [pI q]) ∧ lwR x' m')) := by
  exact st_sign (hz 1) h (fun q x' m' r => ⟨by first | rfl | exact ⟨_, rfl⟩, r⟩)
theorem rl_1 (h : lwR x m) (hz : ∀ j, xB (z (i + j))) : sX2_end (z (i + 1)) x (fun v x' => ∃ q, v = [pI q] ∧ sX3_end (z (i + 1)) m (fun w m' => (∃ q, w = [pI q]) ∧ lwR x' m')) := by
  exact st_end (hz 1) h (fun q x' m' r => ⟨by first | rfl | exact ⟨_, rfl⟩, r⟩)
theorem rl_2 (h : lwR x m) (hz : ∀ j, xB (z (i + j))) : sX2_start (z (i + 1)) (z (i + 2)) (z (i + 3)) (z (i + 4)) x (fun v x' => ∃ q, v = [pI q] ∧ sX3_start (z (i + 1)) (z (i + 2)) (z (i + 3)) (z (i + 4)) m (fun w m' => (∃ q, w = [pI q]) ∧ lwR x' m')) := by
  exact st_start (hz 1) (hz 2) (hz 3) (hz 4) h (fun q x' m' r => ⟨by first | rfl | exact ⟨_, rfl⟩, r⟩)
theorem rl_3 (h : lwR x m) (hz : ∀ j, xB (z (i + j))) : sX2_delays (z (i + 1)) (z (i + 2)) x (fun v x' => ∃ q, v = [pI q] ∧ sX3_delays (z (i + 1)) (z (i + 2)) m (fun w m' => (∃ q, w = [pI q]) ∧ lwR x' m')) := by
  exact st_delays (hz 1) (hz 2) h (fun q x' m' r => ⟨by first | rfl | exact ⟨_, rfl⟩, r⟩)
theorem rl_4 (h : lwR x m) (hz : ∀ j, xB (z (i + j))) : sX2_event (z (i + 1)) (z (i + 2)) (z (i + 3)) (z (i + 4)) x (fun v x' => ∃ q, v = [pI q] ∧ sX3_event (z (i + 1)) (z (i + 2)) (z (i + 3)) (z (i + 4)) m (fun w m' => (∃ q, w = [pI q]) ∧ lwR x' m')) := by
  exact st_event (hz 1) (hz 2) (hz 3) (hz 4) h (fun q x' m' r => ⟨by first | rfl | exact ⟨_, rfl⟩, r⟩)
theorem rl_5 (h : lwR x m) (hz : ∀ j, xB (z (i + j))) : sX2_events x (fun v x' => ∃ q, v = [pI q] ∧ sX3_events m (fun w m' => (∃ q, w = [pI q]) ∧ lwR x' m')) := by
  exact st_events h (fun q x' m' r => ⟨by first | rfl | exact ⟨_, rfl⟩, r⟩)
theorem rl_6 (h : lwR x m) (hz : ∀ j, xB (z (i + j))) : sX2_marks (z (i + 1)) (z (i + 2)) x (fun v x' => ∃ q, v = [pI q] ∧ sX3_marks (z (i + 1)) (z (i + 2)) m (fun w m' => (∃ q, w = [pI q]) ∧ lwR x' m')) := by
  exact st_marks (hz 1) (hz 2) h (fun q b x' m' r => ⟨⟨_, rfl⟩, r⟩)
theorem rl_7 (h : lwR x m) (hz : ∀ j, xB (z (i + j))) : sX2_idles (z (i + 1)) x (fun v x' => ∃ q, v = [pI q] ∧ sX3_idles (z (i + 1)) m (fun w m' => (∃ q, w = [pI q]) ∧ lwR x' m')) := by
  exact st_idles (hz 1) h (fun q b x' m' r => ⟨⟨_, rfl⟩, r⟩)
theorem rl_8 (h : lwR x m) (hz : ∀ j, xB (z (i + j))) : (lSrc x (z (i + 1)) ∧ 0 ≤ z (i + 2) ∧ z (i + 2) ≤ 5 → sX3_source (z (i + 1)) (z (i + 2)) m (fun w m' => (∃ q, w = [pI q]) ∧ lwR x m')) ∧ (¬ (lSrc x (z (i + 1)) ∧ 0 ≤ z (i + 2) ∧ z (i + 2) ≤ 5) → sX3_source (z (i + 1)) (z (i + 2)) m (fun w m' => (∃ q, w = [pI q]) ∧ lwR x m')) := by
  exact st_source (hz 1) (hz 2) h (fun m' t r => by first | exact ⟨rfl, t, r⟩ | exact ⟨⟨_, rfl⟩, r⟩) (fun b m' t r => by first | exact ⟨⟨_, rfl⟩, t, r⟩ | exact ⟨⟨_, rfl⟩, r⟩)
theorem rl_9 (h : lwR x m) (hz : ∀ j, xB (z (i + j))) : ((0 ≤ z (i + 1) ∧ z (i + 1) < wZ (x.2.2 0) 1) ∧ 0 ≤ z (i + 2) ∧ z (i + 2) ≤ 7 → sX3_session (z (i + 1)) (z (i + 2)) m (fun w m' => (∃ q, w = [pI q]) ∧ lwR x m')) ∧ (¬ ((0 ≤ z (i + 1) ∧ z (i + 1) < wZ (x.2.2 0) 1) ∧ 0 ≤ z (i + 2) ∧ z (i + 2) ≤ 7) → sX3_session (z (i + 1)) (z (i + 2)) m (fun w m' => (∃ q, w = [pI q]) ∧ lwR x m')) := by
  exact ⟨fun _ => st_session (hz 1) (hz 2) h (fun b m' r => ⟨⟨_, rfl⟩, r⟩), fun _ => st_session (hz 1) (hz 2) h (fun b m' r => ⟨⟨_, rfl⟩, r⟩)⟩
theorem rl_10 (h : lwR x m) (hz : ∀ j, xB (z (i + j))) : sX2_at (z (i + 1)) (z (i + 2)) x (fun v x' => ∃ q, v = [pI q] ∧ sX3_at (z (i + 1)) (z (i + 2)) m (fun w m' => (∃ q, w = [pI q]) ∧ lwR x' m')) := by
  exact st_at (hz 1) (hz 2) h (fun q b x' m' r => ⟨⟨_, rfl⟩, r⟩)
theorem rl_11 (h : lwR x m) (hz : ∀ j, xB (z (i + j))) : (ofLatest (z (i + 1)) ((x.2.2 0).1 4) 60 ∧ 0 ≤ z (i + 2) ∧ z (i + 2) < 6 → sX3_message (z (i + 1)) (z (i + 2)) m (fun w m' => (∃ q, w = [pI q]) ∧ lwR x m')) ∧ (¬ (ofLatest (z (i + 1)) ((x.2.2 0).1 4) 60 ∧ 0 ≤ z (i + 2) ∧ z (i + 2) < 6) → sX3_message (z (i + 1)) (z (i + 2)) m (fun w m' => (∃ q, w = [pI q]) ∧ lwR x m')) := by
  exact ⟨fun _ => st_message (hz 1) (hz 2) h (fun b m' r => ⟨⟨_, rfl⟩, r⟩), fun _ => st_message (hz 1) (hz 2) h (fun b m' r => ⟨⟨_, rfl⟩, r⟩)⟩
theorem rl_12 (h : lwR x m) (hz : ∀ j, xB (z (i + j))) : sX2_sent (z (i + 1)) x (fun v x' => ∃ q, v = [pI q] ∧ sX3_sent (z (i + 1)) m (fun w m' => (∃ q, w = [pI q]) ∧ lwR x' m')) := by
  exact st_sent (hz 1) h (fun q b x' m' r => ⟨⟨_, rfl⟩, r⟩)
theorem rl_13 (h : lwR x m) (hz : ∀ j, xB (z (i + j))) : sX2_stands x (fun v x' => ∃ q, v = [pI q] ∧ sX3_stands m (fun w m' => (∃ q, w = [pI q]) ∧ lwR x' m')) := by
  exact st_stands h (fun q b x' m' r => ⟨⟨_, rfl⟩, r⟩)
theorem rl_14 (h : lwR x m) (hz : ∀ j, xB (z (i + j))) : sX2_closed (z (i + 1)) x (fun v x' => ∃ q, v = [pI q] ∧ sX3_closed (z (i + 1)) m (fun w m' => (∃ q, w = [pI q]) ∧ lwR x' m')) := by
  exact st_closed (hz 1) h (fun q b x' m' r => ⟨⟨_, rfl⟩, r⟩)
theorem rl_15 (h : lwR x m) (hz : ∀ j, xB (z (i + j))) : (ofLatest (z (i + 1)) ((x.2.2 0).1 5) 40 ∧ 0 ≤ z (i + 2) ∧ z (i + 2) < 7 → sX3_finals (z (i + 1)) (z (i + 2)) m (fun w m' => (∃ q, w = [pI q]) ∧ lwR x m')) ∧ (¬ (ofLatest (z (i + 1)) ((x.2.2 0).1 5) 40 ∧ 0 ≤ z (i + 2) ∧ z (i + 2) < 7) → sX3_finals (z (i + 1)) (z (i + 2)) m (fun w m' => (∃ q, w = [pI q]) ∧ lwR x m')) := by
  exact ⟨fun _ => st_finals (hz 1) (hz 2) h (fun b m' r => ⟨⟨_, rfl⟩, r⟩), fun _ => st_finals (hz 1) (hz 2) h (fun b m' r => ⟨⟨_, rfl⟩, r⟩)⟩
theorem rl_16 (h : lwR x m) (hz : ∀ j, xB (z (i + j))) : sX2_kinds (z (i + 1)) x (fun v x' => ∃ q, v = [pI q] ∧ sX3_kinds (z (i + 1)) m (fun w m' => (∃ q, w = [pI q]) ∧ lwR x' m')) := by
  exact st_kinds (hz 1) h (fun q b x' m' r => ⟨⟨_, rfl⟩, r⟩)
theorem rl_17 (h : lwR x m) (hz : ∀ j, xB (z (i + j))) : sX2_slow x (fun v x' => ∃ q, v = [pI q] ∧ sX3_slow m (fun w m' => (∃ q, w = [pI q]) ∧ lwR x' m')) := by
  exact st_slow h (fun q b x' m' r => ⟨⟨_, rfl⟩, r⟩)
theorem rl_18 (h : lwR x m) (hz : ∀ j, xB (z (i + j))) : sX2_span (z (i + 1)) (z (i + 2)) x (fun v x' => ∃ q, v = [pI q] ∧ sX3_span (z (i + 1)) (z (i + 2)) m (fun w m' => (∃ q, w = [pI q]) ∧ lwR x' m')) := by
  exact st_span (hz 1) (hz 2) h (fun q b x' m' r => ⟨⟨_, rfl⟩, r⟩)
theorem rl_19 (h : lwR x m) (hz : ∀ j, xB (z (i + j))) : sX2_taken x (fun v x' => ∃ q, v = [pI q] ∧ sX3_taken m (fun w m' => (∃ q, w = [pI q]) ∧ lwR x' m')) := by
  exact st_taken h (fun q x' m' r => ⟨by first | rfl | exact ⟨_, rfl⟩, r⟩)
theorem rl_20 (h : lwR x m) (hz : ∀ j, xB (z (i + j))) : sX2_holds x (fun v x' => ∃ q, v = [pI q] ∧ sX3_holds m (fun w m' => (∃ q, w = [pI q]) ∧ lwR x' m')) := by
  exact st_holds h (fun q b x' m' r => ⟨⟨_, rfl⟩, r⟩)
theorem rl_21 (h : lwR x m) (hz : ∀ j, xB (z (i + j))) : sX2_next x (fun v x' => ∃ q, v = [pI q] ∧ sX3_next m (fun w m' => (∃ q, w = [pI q]) ∧ lwR x' m')) := by
  exact st_next h (fun q b x' m' r => ⟨⟨_, rfl⟩, r⟩)
theorem rl_22 (h : lwR x m) (hz : ∀ j, xB (z (i + j))) : sX2_ahead (z (i + 1)) x (fun v x' => ∃ q, v = [pI q] ∧ sX3_ahead (z (i + 1)) m (fun w m' => (∃ q, w = [pI q]) ∧ lwR x' m')) := by
  exact st_ahead (hz 1) h (fun q b x' m' r => ⟨⟨_, rfl⟩, r⟩)
theorem rl_23 (h : lwR x m) (hz : ∀ j, xB (z (i + j))) : sX2_would (z (i + 1)) (z (i + 2)) (z (i + 3)) (z (i + 4)) x (fun v x' => ∃ q, v = [pI q] ∧ sX3_would (z (i + 1)) (z (i + 2)) (z (i + 3)) (z (i + 4)) m (fun w m' => (∃ q, w = [pI q]) ∧ lwR x' m')) := by
  exact st_would (hz 1) (hz 2) (hz 3) (hz 4) h (fun q x' m' r => ⟨by first | rfl | exact ⟨_, rfl⟩, r⟩)
theorem rl_24 (h : lwR x m) (hz : ∀ j, xB (z (i + j))) : sX2_batch (z (i + 1)) x (fun v x' => ∃ q, v = [pI q] ∧ sX3_batch (z (i + 1)) m (fun w m' => (∃ q, w = [pI q]) ∧ lwR x' m')) := by
  exact st_batch (hz 1) h (fun q b x' m' r => ⟨⟨_, rfl⟩, r⟩)
theorem rl_25 (h : lwR x m) (hz : ∀ j, xB (z (i + j))) : sX2_latest x (fun v x' => ∃ q, v = [pI q] ∧ sX3_latest m (fun w m' => (∃ q, w = [pI q]) ∧ lwR x' m')) := by
  exact st_latest h (fun q b x' m' r => ⟨⟨_, rfl⟩, r⟩)
theorem rl_26 (h : lwR x m) (hz : ∀ j, xB (z (i + j))) : sX2_parts (z (i + 1)) (z (i + 2)) x (fun v x' => ∃ q, v = [pI q] ∧ sX3_parts (z (i + 1)) (z (i + 2)) m (fun w m' => (∃ q, w = [pI q]) ∧ lwR x' m')) := by
  exact st_parts (hz 1) (hz 2) h (fun q b x' m' r => ⟨⟨_, rfl⟩, r⟩)
theorem rl_27 (h : lwR x m) (hz : ∀ j, xB (z (i + j))) : sX2_again (z (i + 1)) (z (i + 2)) (z (i + 3)) x (fun v x' => ∃ q, v = [pI q] ∧ sX3_again (z (i + 1)) (z (i + 2)) (z (i + 3)) m (fun w m' => (∃ q, w = [pI q]) ∧ lwR x' m')) := by
  exact st_again (hz 1) (hz 2) (hz 3) h (fun q b x' m' r => ⟨⟨_, rfl⟩, r⟩)
theorem rl_28 (h : lwR x m) (hz : ∀ j, xB (z (i + j))) : sX2_without (z (i + 1)) x (fun v x' => ∃ q, v = [pI q] ∧ sX3_without (z (i + 1)) m (fun w m' => (∃ q, w = [pI q]) ∧ lwR x' m')) := by
  exact st_without (hz 1) h (fun q b x' m' r => ⟨⟨_, rfl⟩, r⟩)
theorem rl_29 (h : lwR x m) (hz : ∀ j, xB (z (i + j))) : ((0 ≤ z (i + 1) ∧ z (i + 1) < wZ (x.2.2 0) 4) ∧ 0 ≤ z (i + 2) ∧ z (i + 2) ≤ 3 → sX3_input (z (i + 1)) (z (i + 2)) m (fun w m' => w = [pI (fInput x (z (i + 1)) (z (i + 2)))] ∧ m'.1 0 = 0 ∧ lwR x m')) ∧ (¬ ((0 ≤ z (i + 1) ∧ z (i + 1) < wZ (x.2.2 0) 4) ∧ 0 ≤ z (i + 2) ∧ z (i + 2) ≤ 3) → sX3_input (z (i + 1)) (z (i + 2)) m (fun w m' => (∃ q, w = [pI q]) ∧ m'.1 0 = 1 ∧ lwR x m')) := by
  exact st_input (hz 1) (hz 2) h (fun m' t r => by first | exact ⟨rfl, t, r⟩ | exact ⟨⟨_, rfl⟩, r⟩) (fun b m' t r => by first | exact ⟨⟨_, rfl⟩, t, r⟩ | exact ⟨⟨_, rfl⟩, r⟩)
theorem rl_30 (h : lwR x m) (hz : ∀ j, xB (z (i + j))) : sX2_day x (fun v x' => ∃ q, v = [pI q] ∧ sX3_day m (fun w m' => (∃ q, w = [pI q]) ∧ lwR x' m')) := by
  exact st_day h (fun q x' m' r => ⟨by first | rfl | exact ⟨_, rfl⟩, r⟩)
theorem rl_31 (h : lwR x m) (hz : ∀ j, xB (z (i + j))) : sX2_undo x (fun v x' => ∃ q, v = [pI q] ∧ sX3_undo m (fun w m' => (∃ q, w = [pI q]) ∧ lwR x' m')) := by
  exact st_undo h (fun q x' m' r => ⟨by first | rfl | exact ⟨_, rfl⟩, r⟩)
theorem rl_32 (h : lwR x m) (hz : ∀ j, xB (z (i + j))) : sX2_years (z (i + 1)) (z (i + 2)) x (fun v x' => ∃ q, v = [pI q] ∧ sX3_years (z (i + 1)) (z (i + 2)) m (fun w m' => (∃ q, w = [pI q]) ∧ lwR x' m')) := by
  exact st_years (hz 1) (hz 2) h (fun q b x' m' r => ⟨⟨_, rfl⟩, r⟩)
theorem rl_33 (h : lwR x m) (hz : ∀ j, xB (z (i + j))) : sX2_keep (z (i + 1)) x (fun v x' => ∃ q, v = [pI q] ∧ sX3_keep (z (i + 1)) m (fun w m' => (∃ q, w = [pI q]) ∧ lwR x' m')) := by
  exact st_keep (hz 1) h (fun q x' m' r => ⟨by first | rfl | exact ⟨_, rfl⟩, r⟩)
theorem rl_34 (h : lwR x m) (hz : ∀ j, xB (z (i + j))) : sX2_back (z (i + 1)) x (fun v x' => ∃ q, v = [pI q] ∧ sX3_back (z (i + 1)) m (fun w m' => (∃ q, w = [pI q]) ∧ lwR x' m')) := by
  exact st_back (hz 1) h (fun q x' m' r => ⟨by first | rfl | exact ⟨_, rfl⟩, r⟩) (eq_back h.2.2.2.1 _)
theorem rl_35 (h : lwR x m) (hz : ∀ j, xB (z (i + j))) : sX2_count (z (i + 1)) x (fun v x' => ∃ q, v = [pI q] ∧ sX3_count (z (i + 1)) m (fun w m' => (∃ q, w = [pI q]) ∧ lwR x' m')) := by
  exact st_count (hz 1) h (fun q b x' m' r => ⟨⟨_, rfl⟩, r⟩)
theorem rl_36 (h : lwR x m) (hz : ∀ j, xB (z (i + j))) : (0 ≤ z (i + 1) ∧ z (i + 1) < x.1 3 ∧ z (i + 1) < 6 → sX3_row (z (i + 1)) m (fun w m' => (∃ q, w = [pJ q]) ∧ lwR x m')) ∧ (¬ (0 ≤ z (i + 1) ∧ z (i + 1) < x.1 3 ∧ z (i + 1) < 6) → sX3_row (z (i + 1)) m (fun w m' => (∃ q, w = [pJ q]) ∧ lwR x m')) := by
  exact ⟨fun _ => st_row (hz 1) h (fun b m' r => ⟨⟨_, rfl⟩, r⟩), fun _ => st_row (hz 1) h (fun b m' r => ⟨⟨_, rfl⟩, r⟩)⟩
theorem rl_all (h : lwR x m) (hz : ∀ j, xB (z (i + j))) (k : Nat) : lwS z i x m lwR k := by
  match k with
  | 0 => exact rl_0 h hz
  | 1 => exact rl_1 h hz
  | 2 => exact rl_2 h hz
  | 3 => exact rl_3 h hz
  | 4 => exact rl_4 h hz
  | 5 => exact rl_5 h hz
  | 6 => exact rl_6 h hz
  | 7 => exact rl_7 h hz
  | 8 => exact rl_8 h hz
  | 9 => exact rl_9 h hz
  | 10 => exact rl_10 h hz
  | 11 => exact rl_11 h hz
  | 12 => exact rl_12 h hz
  | 13 => exact rl_13 h hz
  | 14 => exact rl_14 h hz
  | 15 => exact rl_15 h hz
  | 16 => exact rl_16 h hz
  | 17 => exact rl_17 h hz
  | 18 => exact rl_18 h hz
  | 19 => exact rl_19 h hz
  | 20 => exact rl_20 h hz
  | 21 => exact rl_21 h hz
  | 22 => exact rl_22 h hz
  | 23 => exact rl_23 h hz
  | 24 => exact rl_24 h hz
  | 25 => exact rl_25 h hz
  | 26 => exact rl_26 h hz
  | 27 => exact rl_27 h hz
  | 28 => exact rl_28 h hz
  | 29 => exact rl_29 h hz
  | 30 => exact rl_30 h hz
  | 31 => exact rl_31 h hz
  | 32 => exact rl_32 h hz
  | 33 => exact rl_33 h hz
  | 34 => exact rl_34 h hz
  | 35 => exact rl_35 h hz
  | 36 => exact rl_36 h hz
  | k + 37 => exact h
end RL
