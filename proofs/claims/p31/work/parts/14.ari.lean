/-! ===== specs by the number of their arguments (ints; longs j) ===== -/
section ARI
variable {σ : Type} {enc : σ → XH} {bd : σ → Prop} {μ : XI}
def a0 (f : σ → (PS → σ → Prop) → Prop) : List PV → σ → (PS → σ → Prop) → Prop := fun as s K => match as with
  | [] => f  s K
  | _ => False
theorem mOVa0 {f : σ → (PS → σ → Prop) → Prop} (hk : xl_K μ) (hp : ∀ (_ : Unit), Nat.ble (pw (pR 0 :: [])) μ.2.2.1 = true) (h : ∀ (s : σ) (K : PS → σ → Prop), f  s K → bd s → wX enc bd μ 0 0 K (fun _ => False) 0 (pe (pR 0 :: []) μ.2.2.1) [] s) : mOk enc bd μ (atR 0 (a0 f)) := by
  refine mOk_of hk (fun as s K q => ?_)
  obtain ⟨as, rfl, q1⟩ := atR_inv q
  unfold a0 at q1
  split at q1
  · exact ⟨hp (), fun hb => h  s K q1 hb⟩
  · exact q1.elim
theorem mOSa0 {f : σ → (PS → σ → Prop) → Prop} (hk : xl_K μ) (hp : ∀ (_ : Unit), Nat.ble (pw ([] : List PV)) μ.2.2.1 = true) (h : ∀ (s : σ) (K : PS → σ → Prop), f  s K → bd s → wX enc bd μ 0 0 K (fun _ => False) 0 (pe ([] : List PV) μ.2.2.1) [] s) : mOk enc bd μ (a0 f) := by
  refine mOk_of hk (fun as s K q => ?_)
  have q1 := q
  unfold a0 at q1
  split at q1
  · exact ⟨hp (), fun hb => h  s K q1 hb⟩
  · exact q1.elim
def a1 (f : Int → σ → (PS → σ → Prop) → Prop) : List PV → σ → (PS → σ → Prop) → Prop := fun as s K => match as with
  | [.inl x0] => f x0 s K
  | _ => False
theorem mOVa1 {f : Int → σ → (PS → σ → Prop) → Prop} (hk : xl_K μ) (hp : ∀ (x0 : Int), Nat.ble (pw (pR 0 :: [(.inl x0 : PV)])) μ.2.2.1 = true) (h : ∀ (x0 : Int) (s : σ) (K : PS → σ → Prop), f x0 s K → bd s → wX enc bd μ 0 0 K (fun _ => False) 0 (pe (pR 0 :: [(.inl x0 : PV)]) μ.2.2.1) [] s) : mOk enc bd μ (atR 0 (a1 f)) := by
  refine mOk_of hk (fun as s K q => ?_)
  obtain ⟨as, rfl, q1⟩ := atR_inv q
  unfold a1 at q1
  split at q1
  · next x0 =>
    exact ⟨hp x0, fun hb => h x0 s K q1 hb⟩
  · exact q1.elim
theorem mOSa1 {f : Int → σ → (PS → σ → Prop) → Prop} (hk : xl_K μ) (hp : ∀ (x0 : Int), Nat.ble (pw [(.inl x0 : PV)]) μ.2.2.1 = true) (h : ∀ (x0 : Int) (s : σ) (K : PS → σ → Prop), f x0 s K → bd s → wX enc bd μ 0 0 K (fun _ => False) 0 (pe [(.inl x0 : PV)] μ.2.2.1) [] s) : mOk enc bd μ (a1 f) := by
  refine mOk_of hk (fun as s K q => ?_)
  have q1 := q
  unfold a1 at q1
  split at q1
  · next x0 =>
    exact ⟨hp x0, fun hb => h x0 s K q1 hb⟩
  · exact q1.elim
def a2 (f : Int → Int → σ → (PS → σ → Prop) → Prop) : List PV → σ → (PS → σ → Prop) → Prop := fun as s K => match as with
  | [.inl x0, .inl x1] => f x0 x1 s K
  | _ => False
theorem mOVa2 {f : Int → Int → σ → (PS → σ → Prop) → Prop} (hk : xl_K μ) (hp : ∀ (x0 x1 : Int), Nat.ble (pw (pR 0 :: [(.inl x0 : PV), (.inl x1 : PV)])) μ.2.2.1 = true) (h : ∀ (x0 x1 : Int) (s : σ) (K : PS → σ → Prop), f x0 x1 s K → bd s → wX enc bd μ 0 0 K (fun _ => False) 0 (pe (pR 0 :: [(.inl x0 : PV), (.inl x1 : PV)]) μ.2.2.1) [] s) : mOk enc bd μ (atR 0 (a2 f)) := by
  refine mOk_of hk (fun as s K q => ?_)
  obtain ⟨as, rfl, q1⟩ := atR_inv q
  unfold a2 at q1
  split at q1
  · next x0 x1 =>
    exact ⟨hp x0 x1, fun hb => h x0 x1 s K q1 hb⟩
  · exact q1.elim
theorem mOSa2 {f : Int → Int → σ → (PS → σ → Prop) → Prop} (hk : xl_K μ) (hp : ∀ (x0 x1 : Int), Nat.ble (pw [(.inl x0 : PV), (.inl x1 : PV)]) μ.2.2.1 = true) (h : ∀ (x0 x1 : Int) (s : σ) (K : PS → σ → Prop), f x0 x1 s K → bd s → wX enc bd μ 0 0 K (fun _ => False) 0 (pe [(.inl x0 : PV), (.inl x1 : PV)] μ.2.2.1) [] s) : mOk enc bd μ (a2 f) := by
  refine mOk_of hk (fun as s K q => ?_)
  have q1 := q
  unfold a2 at q1
  split at q1
  · next x0 x1 =>
    exact ⟨hp x0 x1, fun hb => h x0 x1 s K q1 hb⟩
  · exact q1.elim
def a3 (f : Int → Int → Int → σ → (PS → σ → Prop) → Prop) : List PV → σ → (PS → σ → Prop) → Prop := fun as s K => match as with
  | [.inl x0, .inl x1, .inl x2] => f x0 x1 x2 s K
  | _ => False
theorem mOVa3 {f : Int → Int → Int → σ → (PS → σ → Prop) → Prop} (hk : xl_K μ) (hp : ∀ (x0 x1 x2 : Int), Nat.ble (pw (pR 0 :: [(.inl x0 : PV), (.inl x1 : PV), (.inl x2 : PV)])) μ.2.2.1 = true) (h : ∀ (x0 x1 x2 : Int) (s : σ) (K : PS → σ → Prop), f x0 x1 x2 s K → bd s → wX enc bd μ 0 0 K (fun _ => False) 0 (pe (pR 0 :: [(.inl x0 : PV), (.inl x1 : PV), (.inl x2 : PV)]) μ.2.2.1) [] s) : mOk enc bd μ (atR 0 (a3 f)) := by
  refine mOk_of hk (fun as s K q => ?_)
  obtain ⟨as, rfl, q1⟩ := atR_inv q
  unfold a3 at q1
  split at q1
  · next x0 x1 x2 =>
    exact ⟨hp x0 x1 x2, fun hb => h x0 x1 x2 s K q1 hb⟩
  · exact q1.elim
theorem mOSa3 {f : Int → Int → Int → σ → (PS → σ → Prop) → Prop} (hk : xl_K μ) (hp : ∀ (x0 x1 x2 : Int), Nat.ble (pw [(.inl x0 : PV), (.inl x1 : PV), (.inl x2 : PV)]) μ.2.2.1 = true) (h : ∀ (x0 x1 x2 : Int) (s : σ) (K : PS → σ → Prop), f x0 x1 x2 s K → bd s → wX enc bd μ 0 0 K (fun _ => False) 0 (pe [(.inl x0 : PV), (.inl x1 : PV), (.inl x2 : PV)] μ.2.2.1) [] s) : mOk enc bd μ (a3 f) := by
  refine mOk_of hk (fun as s K q => ?_)
  have q1 := q
  unfold a3 at q1
  split at q1
  · next x0 x1 x2 =>
    exact ⟨hp x0 x1 x2, fun hb => h x0 x1 x2 s K q1 hb⟩
  · exact q1.elim
def a4 (f : Int → Int → Int → Int → σ → (PS → σ → Prop) → Prop) : List PV → σ → (PS → σ → Prop) → Prop := fun as s K => match as with
  | [.inl x0, .inl x1, .inl x2, .inl x3] => f x0 x1 x2 x3 s K
  | _ => False
theorem mOVa4 {f : Int → Int → Int → Int → σ → (PS → σ → Prop) → Prop} (hk : xl_K μ) (hp : ∀ (x0 x1 x2 x3 : Int), Nat.ble (pw (pR 0 :: [(.inl x0 : PV), (.inl x1 : PV), (.inl x2 : PV), (.inl x3 : PV)])) μ.2.2.1 = true) (h : ∀ (x0 x1 x2 x3 : Int) (s : σ) (K : PS → σ → Prop), f x0 x1 x2 x3 s K → bd s → wX enc bd μ 0 0 K (fun _ => False) 0 (pe (pR 0 :: [(.inl x0 : PV), (.inl x1 : PV), (.inl x2 : PV), (.inl x3 : PV)]) μ.2.2.1) [] s) : mOk enc bd μ (atR 0 (a4 f)) := by
  refine mOk_of hk (fun as s K q => ?_)
  obtain ⟨as, rfl, q1⟩ := atR_inv q
  unfold a4 at q1
  split at q1
  · next x0 x1 x2 x3 =>
    exact ⟨hp x0 x1 x2 x3, fun hb => h x0 x1 x2 x3 s K q1 hb⟩
  · exact q1.elim
theorem mOSa4 {f : Int → Int → Int → Int → σ → (PS → σ → Prop) → Prop} (hk : xl_K μ) (hp : ∀ (x0 x1 x2 x3 : Int), Nat.ble (pw [(.inl x0 : PV), (.inl x1 : PV), (.inl x2 : PV), (.inl x3 : PV)]) μ.2.2.1 = true) (h : ∀ (x0 x1 x2 x3 : Int) (s : σ) (K : PS → σ → Prop), f x0 x1 x2 x3 s K → bd s → wX enc bd μ 0 0 K (fun _ => False) 0 (pe [(.inl x0 : PV), (.inl x1 : PV), (.inl x2 : PV), (.inl x3 : PV)] μ.2.2.1) [] s) : mOk enc bd μ (a4 f) := by
  refine mOk_of hk (fun as s K q => ?_)
  have q1 := q
  unfold a4 at q1
  split at q1
  · next x0 x1 x2 x3 =>
    exact ⟨hp x0 x1 x2 x3, fun hb => h x0 x1 x2 x3 s K q1 hb⟩
  · exact q1.elim
def a5 (f : Int → Int → Int → Int → Int → σ → (PS → σ → Prop) → Prop) : List PV → σ → (PS → σ → Prop) → Prop := fun as s K => match as with
  | [.inl x0, .inl x1, .inl x2, .inl x3, .inl x4] => f x0 x1 x2 x3 x4 s K
  | _ => False
theorem mOVa5 {f : Int → Int → Int → Int → Int → σ → (PS → σ → Prop) → Prop} (hk : xl_K μ) (hp : ∀ (x0 x1 x2 x3 x4 : Int), Nat.ble (pw (pR 0 :: [(.inl x0 : PV), (.inl x1 : PV), (.inl x2 : PV), (.inl x3 : PV), (.inl x4 : PV)])) μ.2.2.1 = true) (h : ∀ (x0 x1 x2 x3 x4 : Int) (s : σ) (K : PS → σ → Prop), f x0 x1 x2 x3 x4 s K → bd s → wX enc bd μ 0 0 K (fun _ => False) 0 (pe (pR 0 :: [(.inl x0 : PV), (.inl x1 : PV), (.inl x2 : PV), (.inl x3 : PV), (.inl x4 : PV)]) μ.2.2.1) [] s) : mOk enc bd μ (atR 0 (a5 f)) := by
  refine mOk_of hk (fun as s K q => ?_)
  obtain ⟨as, rfl, q1⟩ := atR_inv q
  unfold a5 at q1
  split at q1
  · next x0 x1 x2 x3 x4 =>
    exact ⟨hp x0 x1 x2 x3 x4, fun hb => h x0 x1 x2 x3 x4 s K q1 hb⟩
  · exact q1.elim
theorem mOSa5 {f : Int → Int → Int → Int → Int → σ → (PS → σ → Prop) → Prop} (hk : xl_K μ) (hp : ∀ (x0 x1 x2 x3 x4 : Int), Nat.ble (pw [(.inl x0 : PV), (.inl x1 : PV), (.inl x2 : PV), (.inl x3 : PV), (.inl x4 : PV)]) μ.2.2.1 = true) (h : ∀ (x0 x1 x2 x3 x4 : Int) (s : σ) (K : PS → σ → Prop), f x0 x1 x2 x3 x4 s K → bd s → wX enc bd μ 0 0 K (fun _ => False) 0 (pe [(.inl x0 : PV), (.inl x1 : PV), (.inl x2 : PV), (.inl x3 : PV), (.inl x4 : PV)] μ.2.2.1) [] s) : mOk enc bd μ (a5 f) := by
  refine mOk_of hk (fun as s K q => ?_)
  have q1 := q
  unfold a5 at q1
  split at q1
  · next x0 x1 x2 x3 x4 =>
    exact ⟨hp x0 x1 x2 x3 x4, fun hb => h x0 x1 x2 x3 x4 s K q1 hb⟩
  · exact q1.elim
def a6 (f : Int → Int → Int → Int → Int → Int → σ → (PS → σ → Prop) → Prop) : List PV → σ → (PS → σ → Prop) → Prop := fun as s K => match as with
  | [.inl x0, .inl x1, .inl x2, .inl x3, .inl x4, .inl x5] => f x0 x1 x2 x3 x4 x5 s K
  | _ => False
theorem mOVa6 {f : Int → Int → Int → Int → Int → Int → σ → (PS → σ → Prop) → Prop} (hk : xl_K μ) (hp : ∀ (x0 x1 x2 x3 x4 x5 : Int), Nat.ble (pw (pR 0 :: [(.inl x0 : PV), (.inl x1 : PV), (.inl x2 : PV), (.inl x3 : PV), (.inl x4 : PV), (.inl x5 : PV)])) μ.2.2.1 = true) (h : ∀ (x0 x1 x2 x3 x4 x5 : Int) (s : σ) (K : PS → σ → Prop), f x0 x1 x2 x3 x4 x5 s K → bd s → wX enc bd μ 0 0 K (fun _ => False) 0 (pe (pR 0 :: [(.inl x0 : PV), (.inl x1 : PV), (.inl x2 : PV), (.inl x3 : PV), (.inl x4 : PV), (.inl x5 : PV)]) μ.2.2.1) [] s) : mOk enc bd μ (atR 0 (a6 f)) := by
  refine mOk_of hk (fun as s K q => ?_)
  obtain ⟨as, rfl, q1⟩ := atR_inv q
  unfold a6 at q1
  split at q1
  · next x0 x1 x2 x3 x4 x5 =>
    exact ⟨hp x0 x1 x2 x3 x4 x5, fun hb => h x0 x1 x2 x3 x4 x5 s K q1 hb⟩
  · exact q1.elim
theorem mOSa6 {f : Int → Int → Int → Int → Int → Int → σ → (PS → σ → Prop) → Prop} (hk : xl_K μ) (hp : ∀ (x0 x1 x2 x3 x4 x5 : Int), Nat.ble (pw [(.inl x0 : PV), (.inl x1 : PV), (.inl x2 : PV), (.inl x3 : PV), (.inl x4 : PV), (.inl x5 : PV)]) μ.2.2.1 = true) (h : ∀ (x0 x1 x2 x3 x4 x5 : Int) (s : σ) (K : PS → σ → Prop), f x0 x1 x2 x3 x4 x5 s K → bd s → wX enc bd μ 0 0 K (fun _ => False) 0 (pe [(.inl x0 : PV), (.inl x1 : PV), (.inl x2 : PV), (.inl x3 : PV), (.inl x4 : PV), (.inl x5 : PV)] μ.2.2.1) [] s) : mOk enc bd μ (a6 f) := by
  refine mOk_of hk (fun as s K q => ?_)
  have q1 := q
  unfold a6 at q1
  split at q1
  · next x0 x1 x2 x3 x4 x5 =>
    exact ⟨hp x0 x1 x2 x3 x4 x5, fun hb => h x0 x1 x2 x3 x4 x5 s K q1 hb⟩
  · exact q1.elim
def a7 (f : Int → Int → Int → Int → Int → Int → Int → σ → (PS → σ → Prop) → Prop) : List PV → σ → (PS → σ → Prop) → Prop := fun as s K => match as with
  | [.inl x0, .inl x1, .inl x2, .inl x3, .inl x4, .inl x5, .inl x6] => f x0 x1 x2 x3 x4 x5 x6 s K
  | _ => False
theorem mOVa7 {f : Int → Int → Int → Int → Int → Int → Int → σ → (PS → σ → Prop) → Prop} (hk : xl_K μ) (hp : ∀ (x0 x1 x2 x3 x4 x5 x6 : Int), Nat.ble (pw (pR 0 :: [(.inl x0 : PV), (.inl x1 : PV), (.inl x2 : PV), (.inl x3 : PV), (.inl x4 : PV), (.inl x5 : PV), (.inl x6 : PV)])) μ.2.2.1 = true) (h : ∀ (x0 x1 x2 x3 x4 x5 x6 : Int) (s : σ) (K : PS → σ → Prop), f x0 x1 x2 x3 x4 x5 x6 s K → bd s → wX enc bd μ 0 0 K (fun _ => False) 0 (pe (pR 0 :: [(.inl x0 : PV), (.inl x1 : PV), (.inl x2 : PV), (.inl x3 : PV), (.inl x4 : PV), (.inl x5 : PV), (.inl x6 : PV)]) μ.2.2.1) [] s) : mOk enc bd μ (atR 0 (a7 f)) := by
  refine mOk_of hk (fun as s K q => ?_)
  obtain ⟨as, rfl, q1⟩ := atR_inv q
  unfold a7 at q1
  split at q1
  · next x0 x1 x2 x3 x4 x5 x6 =>
    exact ⟨hp x0 x1 x2 x3 x4 x5 x6, fun hb => h x0 x1 x2 x3 x4 x5 x6 s K q1 hb⟩
  · exact q1.elim
theorem mOSa7 {f : Int → Int → Int → Int → Int → Int → Int → σ → (PS → σ → Prop) → Prop} (hk : xl_K μ) (hp : ∀ (x0 x1 x2 x3 x4 x5 x6 : Int), Nat.ble (pw [(.inl x0 : PV), (.inl x1 : PV), (.inl x2 : PV), (.inl x3 : PV), (.inl x4 : PV), (.inl x5 : PV), (.inl x6 : PV)]) μ.2.2.1 = true) (h : ∀ (x0 x1 x2 x3 x4 x5 x6 : Int) (s : σ) (K : PS → σ → Prop), f x0 x1 x2 x3 x4 x5 x6 s K → bd s → wX enc bd μ 0 0 K (fun _ => False) 0 (pe [(.inl x0 : PV), (.inl x1 : PV), (.inl x2 : PV), (.inl x3 : PV), (.inl x4 : PV), (.inl x5 : PV), (.inl x6 : PV)] μ.2.2.1) [] s) : mOk enc bd μ (a7 f) := by
  refine mOk_of hk (fun as s K q => ?_)
  have q1 := q
  unfold a7 at q1
  split at q1
  · next x0 x1 x2 x3 x4 x5 x6 =>
    exact ⟨hp x0 x1 x2 x3 x4 x5 x6, fun hb => h x0 x1 x2 x3 x4 x5 x6 s K q1 hb⟩
  · exact q1.elim
def j1 (f : Int → σ → (PS → σ → Prop) → Prop) : List PV → σ → (PS → σ → Prop) → Prop := fun as s K => match as with
  | [.inr (.inl x0)] => f x0 s K
  | _ => False
theorem mOVj1 {f : Int → σ → (PS → σ → Prop) → Prop} (hk : xl_K μ) (hp : ∀ (x0 : Int), Nat.ble (pw (pR 0 :: [pJ x0])) μ.2.2.1 = true) (h : ∀ (x0 : Int) (s : σ) (K : PS → σ → Prop), f x0 s K → bd s → wX enc bd μ 0 0 K (fun _ => False) 0 (pe (pR 0 :: [pJ x0]) μ.2.2.1) [] s) : mOk enc bd μ (atR 0 (j1 f)) := by
  refine mOk_of hk (fun as s K q => ?_)
  obtain ⟨as, rfl, q1⟩ := atR_inv q
  unfold j1 at q1
  split at q1
  · next x0 =>
    exact ⟨hp x0, fun hb => h x0 s K q1 hb⟩
  · exact q1.elim
theorem mOSj1 {f : Int → σ → (PS → σ → Prop) → Prop} (hk : xl_K μ) (hp : ∀ (x0 : Int), Nat.ble (pw [pJ x0]) μ.2.2.1 = true) (h : ∀ (x0 : Int) (s : σ) (K : PS → σ → Prop), f x0 s K → bd s → wX enc bd μ 0 0 K (fun _ => False) 0 (pe [pJ x0] μ.2.2.1) [] s) : mOk enc bd μ (j1 f) := by
  refine mOk_of hk (fun as s K q => ?_)
  have q1 := q
  unfold j1 at q1
  split at q1
  · next x0 =>
    exact ⟨hp x0, fun hb => h x0 s K q1 hb⟩
  · exact q1.elim
def j2 (f : Int → Int → σ → (PS → σ → Prop) → Prop) : List PV → σ → (PS → σ → Prop) → Prop := fun as s K => match as with
  | [.inr (.inl x0), .inr (.inl x1)] => f x0 x1 s K
  | _ => False
theorem mOVj2 {f : Int → Int → σ → (PS → σ → Prop) → Prop} (hk : xl_K μ) (hp : ∀ (x0 x1 : Int), Nat.ble (pw (pR 0 :: [pJ x0, pJ x1])) μ.2.2.1 = true) (h : ∀ (x0 x1 : Int) (s : σ) (K : PS → σ → Prop), f x0 x1 s K → bd s → wX enc bd μ 0 0 K (fun _ => False) 0 (pe (pR 0 :: [pJ x0, pJ x1]) μ.2.2.1) [] s) : mOk enc bd μ (atR 0 (j2 f)) := by
  refine mOk_of hk (fun as s K q => ?_)
  obtain ⟨as, rfl, q1⟩ := atR_inv q
  unfold j2 at q1
  split at q1
  · next x0 x1 =>
    exact ⟨hp x0 x1, fun hb => h x0 x1 s K q1 hb⟩
  · exact q1.elim
theorem mOSj2 {f : Int → Int → σ → (PS → σ → Prop) → Prop} (hk : xl_K μ) (hp : ∀ (x0 x1 : Int), Nat.ble (pw [pJ x0, pJ x1]) μ.2.2.1 = true) (h : ∀ (x0 x1 : Int) (s : σ) (K : PS → σ → Prop), f x0 x1 s K → bd s → wX enc bd μ 0 0 K (fun _ => False) 0 (pe [pJ x0, pJ x1] μ.2.2.1) [] s) : mOk enc bd μ (j2 f) := by
  refine mOk_of hk (fun as s K q => ?_)
  have q1 := q
  unfold j2 at q1
  split at q1
  · next x0 x1 =>
    exact ⟨hp x0 x1, fun hb => h x0 x1 s K q1 hb⟩
  · exact q1.elim
def j3 (f : Int → Int → Int → σ → (PS → σ → Prop) → Prop) : List PV → σ → (PS → σ → Prop) → Prop := fun as s K => match as with
  | [.inr (.inl x0), .inr (.inl x1), .inr (.inl x2)] => f x0 x1 x2 s K
  | _ => False
theorem mOVj3 {f : Int → Int → Int → σ → (PS → σ → Prop) → Prop} (hk : xl_K μ) (hp : ∀ (x0 x1 x2 : Int), Nat.ble (pw (pR 0 :: [pJ x0, pJ x1, pJ x2])) μ.2.2.1 = true) (h : ∀ (x0 x1 x2 : Int) (s : σ) (K : PS → σ → Prop), f x0 x1 x2 s K → bd s → wX enc bd μ 0 0 K (fun _ => False) 0 (pe (pR 0 :: [pJ x0, pJ x1, pJ x2]) μ.2.2.1) [] s) : mOk enc bd μ (atR 0 (j3 f)) := by
  refine mOk_of hk (fun as s K q => ?_)
  obtain ⟨as, rfl, q1⟩ := atR_inv q
  unfold j3 at q1
  split at q1
  · next x0 x1 x2 =>
    exact ⟨hp x0 x1 x2, fun hb => h x0 x1 x2 s K q1 hb⟩
  · exact q1.elim
theorem mOSj3 {f : Int → Int → Int → σ → (PS → σ → Prop) → Prop} (hk : xl_K μ) (hp : ∀ (x0 x1 x2 : Int), Nat.ble (pw [pJ x0, pJ x1, pJ x2]) μ.2.2.1 = true) (h : ∀ (x0 x1 x2 : Int) (s : σ) (K : PS → σ → Prop), f x0 x1 x2 s K → bd s → wX enc bd μ 0 0 K (fun _ => False) 0 (pe [pJ x0, pJ x1, pJ x2] μ.2.2.1) [] s) : mOk enc bd μ (j3 f) := by
  refine mOk_of hk (fun as s K q => ?_)
  have q1 := q
  unfold j3 at q1
  split at q1
  · next x0 x1 x2 =>
    exact ⟨hp x0 x1 x2, fun hb => h x0 x1 x2 s K q1 hb⟩
  · exact q1.elim
end ARI
