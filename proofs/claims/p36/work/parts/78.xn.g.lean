-- 78.xn
section
/-! ===== the same for a method that makes cells: the map of places may grow; below Nn it stays ===== -/
/-- the classes of arrays, by their names -/
def xn_A (aC : Nat → ClassId) (s : State) : Prop := (∀ (k : Nat) (q : ClassId × FieldType), (xl_ty aC)[k]? = some q → s.vm.findClass ("[" ++ q.2.toString) = some q.1) ∧ va_AO RX1 s
/-- the script, if there is one: the place 99 of the constants -/
abbrev XS : Type := Option (Nat × (Nat → Int32) × ((Nat → Prop) → State → Prop))
def xn_S (S : XS) (σ : Nat → Nat) (A : Nat → Prop) (s : State) : Prop := match S with
  | none => True
  | some q => va_X (σ 99) q.1 q.2.1 s s.heap ∧ σ 99 < s.heap.size ∧ ¬ A (σ 99) ∧ q.2.2 A s
def xn_W (S : XS) (Nn : Nat) (M : XI) (rc rs pc : Nat) (L : List (Option Value)) (st : List Value) (h : XH) (Po : Option (Option Value) → XH → Prop) : Prop :=
  ∀ (p : Program) (l : Launch) (e : Env) (R : Room) (s : State) (m : MethodId) (args : Array Value) (below : List Frame) (meth : Method) (c : Code) (D : va_G) (aC : Nat → ClassId) (ρ σ aV : Nat → Nat) (A : Nat → Prop) (H : Heap) (locs : List Loc) (cells slots : Nat) (ls : Array Slot) (Q : State → Prop),
    xl_X M l p R s m args meth c → xl_H D aC ρ σ aV A s H locs h → xl_L ρ σ M.2.2.1 ls L → cells + rc ≤ R.cells → slots + rs ≤ R.slots →
    (∀ (ρ' : Nat → Nat) (v : Option Value) (h' : XH) (H' : Heap) (locs' : List Loc) (pc' cells' slots' : Nat) (ls' : Array Slot), (∀ i, i < Nn → ρ' i = ρ i) → Po (some v) h' → xl_H D aC ρ' σ aV A s H' locs' h' → xl_R M pc' v → cells' ≤ cells + rc → slots' ≤ slots + rs → W p l e R s m args below meth c H' locs' cells' slots' Q (F0 m pc' ls' (v.toList.map (xl_v ρ' σ)))) →
    (∀ (ρ' : Nat → Nat) (h' : XH) (H' : Heap) (locs' : List Loc) (pc' cells' slots' : Nat) (ls' : Array Slot), (∀ i, i < Nn → ρ' i = ρ i) → Po none h' → xl_H D aC ρ' σ aV A s H' locs' h' → xl_Y M pc' → cells' + 1 ≤ cells + rc → slots' + 6 ≤ slots + rs → ls'.size = M.2.2.1 → W p l e R s m args below meth c H' locs' cells' slots' Q (F0 m pc' ls' [])) →
    (xn_A aC s ∧ (M.1.name = "<init>" → meth.name = M.1.name) ∧ xn_S S σ A s) → W p l e R s m args below meth c H locs cells slots Q (F0 m pc ls (st.map (xl_v ρ σ)))
section XN
variable {S : XS} {Nn : Nat} {M : XI} {rc rs pc pc2 tgt : Nat} {L : List (Option Value)} {st st2 : List Value} {h : XH} {Po : Option (Option Value) → XH → Prop}
theorem xn_go (f : ∀ {p : Program} {l : Launch} {e : Env} {R : Room} {s : State} {m : MethodId} {args : Array Value} {below : List Frame} {meth : Method} {c : Code} {H : Heap} {locs : List Loc} {cells slots : Nat} {Q : State → Prop} {ls : Array Slot} {ρ σ : Nat → Nat}, xl_X M l p R s m args meth c → W p l e R s m args below meth c H locs cells slots Q (F0 m pc2 ls (st2.map (xl_v ρ σ))) → W p l e R s m args below meth c H locs cells slots Q (F0 m pc ls (st.map (xl_v ρ σ))))
    (k : xn_W S Nn M rc rs pc2 L st2 h Po) : xn_W S Nn M rc rs pc L st h Po := by
  intro p l e R s m args below meth c D aC ρ σ aV A H locs cells slots ls Q hX hH hL h1 h2 hr ht hZ
  exact f hX (k p l e R s m args below meth c D aC ρ σ aV A H locs cells slots ls Q hX hH hL h1 h2 hr ht hZ)
theorem xn_iconst {n : Int} (v : Int32) (d : xl_D M pc (.iconst n) 1 pc2) (hv : Int32.ofInt n = v) (k : xn_W S Nn M rc rs pc2 L (.int v :: st) h Po) : xn_W S Nn M rc rs pc L st h Po := by
  obtain ⟨d, rfl⟩ := d
  exact xn_go (fun hX k => lv_iconst hX.1 hX.2.1 d hv k) k
theorem xn_bipush {n : Int} (v : Int32) (d : xl_D M pc (.bipush n) 2 pc2) (hv : (Int8.ofInt n).toInt32 = v) (k : xn_W S Nn M rc rs pc2 L (.int v :: st) h Po) : xn_W S Nn M rc rs pc L st h Po := by
  obtain ⟨d, rfl⟩ := d
  exact xn_go (fun hX k => lv_bipush hX.1 hX.2.1 d hv k) k
theorem xn_sipush {n : Int} (v : Int32) (d : xl_D M pc (.sipush n) 3 pc2) (hv : (Int16.ofInt n).toInt32 = v) (k : xn_W S Nn M rc rs pc2 L (.int v :: st) h Po) : xn_W S Nn M rc rs pc L st h Po := by
  obtain ⟨d, rfl⟩ := d
  exact xn_go (fun hX k => lv_sipush hX.1 hX.2.1 d hv k) k
theorem xn_lconst {n : Fin 2} (v : Int64) (d : xl_D M pc (.lconst n) 1 pc2) (hv : Int64.ofNat (n : Nat) = v) (k : xn_W S Nn M rc rs pc2 L (.long v :: st) h Po) : xn_W S Nn M rc rs pc L st h Po := by
  obtain ⟨d, rfl⟩ := d
  exact xn_go (fun hX k => lv_lconst hX.1 hX.2.1 d hv k) k
theorem xn_ldcw {i : Nat} {v : Int32} (d : xl_D M pc (.ldc_w i) 3 pc2) (hw : Cond.constant M.1.cls i v ∈ xl_T) (k : xn_W S Nn M rc rs pc2 L (.int v :: st) h Po) : xn_W S Nn M rc rs pc L st h Po := by
  obtain ⟨d, rfl⟩ := d
  exact xn_go (fun hX k => lv_ldcw hX.1 hX.2.1 hX.2.2.2.2.1 (hX.2.2.2.2.2.1 _ hw) d k) k
theorem xn_ldc2 {i : Nat} {v : Int64} (d : xl_D M pc (.ldc2_w i) 3 pc2) (hw : Cond.constantLong M.1.cls i v ∈ xl_T) (k : xn_W S Nn M rc rs pc2 L (.long v :: st) h Po) : xn_W S Nn M rc rs pc L st h Po := by
  obtain ⟨d, rfl⟩ := d
  exact xn_go (fun hX k => lv_ldc2 hX.1 hX.2.1 hX.2.2.2.2.1 (hX.2.2.2.2.2.1 _ hw) d k) k
theorem xn_iadd {a b : Int32} (d : xl_D M pc .iadd 1 pc2) (k : xn_W S Nn M rc rs pc2 L (.int (a + b) :: st) h Po) : xn_W S Nn M rc rs pc L (.int b :: .int a :: st) h Po := by
  obtain ⟨d, rfl⟩ := d
  exact xn_go (fun hX k => lv_iadd hX.1 hX.2.1 d k) k
theorem xn_isub {a b : Int32} (d : xl_D M pc .isub 1 pc2) (k : xn_W S Nn M rc rs pc2 L (.int (a - b) :: st) h Po) : xn_W S Nn M rc rs pc L (.int b :: .int a :: st) h Po := by
  obtain ⟨d, rfl⟩ := d
  exact xn_go (fun hX k => lv_isub hX.1 hX.2.1 d k) k
theorem xn_imul {a b : Int32} (d : xl_D M pc .imul 1 pc2) (k : xn_W S Nn M rc rs pc2 L (.int (a * b) :: st) h Po) : xn_W S Nn M rc rs pc L (.int b :: .int a :: st) h Po := by
  obtain ⟨d, rfl⟩ := d
  exact xn_go (fun hX k => lv_imul hX.1 hX.2.1 d k) k
theorem xn_iand {a b : Int32} (d : xl_D M pc .iand 1 pc2) (k : xn_W S Nn M rc rs pc2 L (.int (a &&& b) :: st) h Po) : xn_W S Nn M rc rs pc L (.int b :: .int a :: st) h Po := by
  obtain ⟨d, rfl⟩ := d
  exact xn_go (fun hX k => lv_iand hX.1 hX.2.1 d k) k
theorem xn_ior {a b : Int32} (d : xl_D M pc .ior 1 pc2) (k : xn_W S Nn M rc rs pc2 L (.int (a ||| b) :: st) h Po) : xn_W S Nn M rc rs pc L (.int b :: .int a :: st) h Po := by
  obtain ⟨d, rfl⟩ := d
  exact xn_go (fun hX k => lv_ior hX.1 hX.2.1 d k) k
theorem xn_ishl {a b : Int32} (d : xl_D M pc .ishl 1 pc2) (k : xn_W S Nn M rc rs pc2 L (.int (a <<< (b &&& 31)) :: st) h Po) : xn_W S Nn M rc rs pc L (.int b :: .int a :: st) h Po := by
  obtain ⟨d, rfl⟩ := d
  exact xn_go (fun hX k => lv_ishl hX.1 hX.2.1 d k) k
theorem xn_ishr {a b : Int32} (d : xl_D M pc .ishr 1 pc2) (k : xn_W S Nn M rc rs pc2 L (.int (a >>> (b &&& 31)) :: st) h Po) : xn_W S Nn M rc rs pc L (.int b :: .int a :: st) h Po := by
  obtain ⟨d, rfl⟩ := d
  exact xn_go (fun hX k => lv_ishr hX.1 hX.2.1 d k) k
theorem xn_iushr {a b : Int32} (d : xl_D M pc .iushr 1 pc2) (k : xn_W S Nn M rc rs pc2 L (.int (a.toUInt32 >>> (b.toUInt32 &&& Int32.toUInt32 31)).toInt32 :: st) h Po) : xn_W S Nn M rc rs pc L (.int b :: .int a :: st) h Po := by
  obtain ⟨d, rfl⟩ := d
  exact xn_go (fun hX k => lv_iushr hX.1 hX.2.1 d rfl k) k
theorem xn_idiv {a b : Int32} (d : xl_D M pc .idiv 1 pc2) (hne : ¬ b = 0) (k : xn_W S Nn M rc rs pc2 L (.int (a / b) :: st) h Po) : xn_W S Nn M rc rs pc L (.int b :: .int a :: st) h Po := by
  obtain ⟨d, rfl⟩ := d
  exact xn_go (fun hX k => lv_idiv hX.1 hX.2.1 d hne k) k
theorem xn_irem {a b : Int32} (d : xl_D M pc .irem 1 pc2) (hne : ¬ b = 0) (k : xn_W S Nn M rc rs pc2 L (.int (a - a / b * b) :: st) h Po) : xn_W S Nn M rc rs pc L (.int b :: .int a :: st) h Po := by
  obtain ⟨d, rfl⟩ := d
  exact xn_go (fun hX k => lv_irem hX.1 hX.2.1 d hne k) k
theorem xn_ineg {a : Int32} (d : xl_D M pc .ineg 1 pc2) (k : xn_W S Nn M rc rs pc2 L (.int (-a) :: st) h Po) : xn_W S Nn M rc rs pc L (.int a :: st) h Po := by
  obtain ⟨d, rfl⟩ := d
  exact xn_go (fun hX k => lv_ineg hX.1 hX.2.1 d k) k
theorem xn_i2l {a : Int32} (d : xl_D M pc .i2l 1 pc2) (k : xn_W S Nn M rc rs pc2 L (.long a.toInt64 :: st) h Po) : xn_W S Nn M rc rs pc L (.int a :: st) h Po := by
  obtain ⟨d, rfl⟩ := d
  exact xn_go (fun hX k => lv_i2l hX.1 hX.2.1 d rfl k) k
theorem xn_lcmp {a b : Int64} (d : xl_D M pc .lcmp 1 pc2) (k : xn_W S Nn M rc rs pc2 L (.int (lg_cmp a b) :: st) h Po) : xn_W S Nn M rc rs pc L (.long b :: .long a :: st) h Po := by
  obtain ⟨d, rfl⟩ := d
  exact xn_go (fun hX k => W.lcmp hX.1 hX.2.1 d k) k
theorem xn_dup {a : Value} (d : xl_D M pc .dup 1 pc2) (ha : xl_1 a = true) (k : xn_W S Nn M rc rs pc2 L (a :: a :: st) h Po) : xn_W S Nn M rc rs pc L (a :: st) h Po := by
  obtain ⟨d, rfl⟩ := d
  exact xn_go (fun hX k => lv_dup hX.1 hX.2.1 d (xl_1c ha) k) k
theorem xn_pop {a : Value} (d : xl_D M pc .pop 1 pc2) (ha : xl_1 a = true) (k : xn_W S Nn M rc rs pc2 L st h Po) : xn_W S Nn M rc rs pc L (a :: st) h Po := by
  obtain ⟨d, rfl⟩ := d
  exact xn_go (fun hX k => lv_pop hX.1 hX.2.1 d (xl_1c ha) k) k
theorem xn_dup2 {a b : Value} (d : xl_D M pc .dup2 1 pc2) (ha : xl_1 a = true) (hb : xl_1 b = true) (k : xn_W S Nn M rc rs pc2 L (a :: b :: a :: b :: st) h Po) : xn_W S Nn M rc rs pc L (a :: b :: st) h Po := by
  obtain ⟨d, rfl⟩ := d
  exact xn_go (fun hX k => lv_dup2_11 hX.1 hX.2.1 d (xl_1c ha) (xl_1c hb) k) k
theorem xn_goto (d : xl_J M pc (fun o => .goto o) pc2 tgt) (k : xn_W S Nn M rc rs tgt L st h Po) : xn_W S Nn M rc rs pc L st h Po := by
  obtain ⟨off, d, e1, -⟩ := d
  exact xn_go (fun hX k => lv_goto hX.1 hX.2.1 d e1 k) k
theorem xn_ifnonnull {a : Nat} (d : xl_J M pc (fun o => .ifnonnull o) pc2 tgt) (k : xn_W S Nn M rc rs tgt L st h Po) : xn_W S Nn M rc rs pc L (.ref a :: st) h Po := by
  obtain ⟨off, d, e1, -⟩ := d
  exact xn_go (fun hX k => lv_ifnonnull hX.1 hX.2.1 d e1 k) k
theorem xn_ifnull {a : Nat} (d : xl_J M pc (fun o => .ifnull o) pc2 tgt) (k : xn_W S Nn M rc rs pc2 L st h Po) : xn_W S Nn M rc rs pc L (.ref a :: st) h Po := by
  obtain ⟨off, d, e1, rfl⟩ := d
  exact xn_go (fun hX k => lv_ifnull hX.1 hX.2.1 d k) k
theorem xn_if {P : Prop} {st2 : List Value} {t f : Nat} (g : ∀ {p : Program} {l : Launch} {e : Env} {R : Room} {s : State} {m : MethodId} {args : Array Value} {below : List Frame} {meth : Method} {c : Code} {H : Heap} {locs : List Loc} {cells slots : Nat} {Q : State → Prop} {ls : Array Slot} {ρ σ : Nat → Nat}, xl_X M l p R s m args meth c → (P → W p l e R s m args below meth c H locs cells slots Q (F0 m t ls (st2.map (xl_v ρ σ)))) → (¬ P → W p l e R s m args below meth c H locs cells slots Q (F0 m f ls (st2.map (xl_v ρ σ)))) → W p l e R s m args below meth c H locs cells slots Q (F0 m pc ls (st.map (xl_v ρ σ))))
    (kt : P → xn_W S Nn M rc rs t L st2 h Po) (kf : ¬ P → xn_W S Nn M rc rs f L st2 h Po) : xn_W S Nn M rc rs pc L st h Po := by
  intro p l e R s m args below meth c D aC ρ σ aV A H locs cells slots ls Q hX hH hL h1 h2 hr ht hZ
  exact g hX (fun q => kt q p l e R s m args below meth c D aC ρ σ aV A H locs cells slots ls Q hX hH hL h1 h2 hr ht hZ) (fun q => kf q p l e R s m args below meth c D aC ρ σ aV A H locs cells slots ls Q hX hH hL h1 h2 hr ht hZ)
theorem xn_if_eq {a : Int32} (d : xl_J M pc (fun o => .ifCond .eq o) pc2 tgt) (kt : a = 0 → xn_W S Nn M rc rs tgt L st h Po) (kf : ¬ (a = 0) → xn_W S Nn M rc rs pc2 L st h Po) : xn_W S Nn M rc rs pc L (.int a :: st) h Po := by
  obtain ⟨off, d, e1, rfl⟩ := d
  exact xn_if (fun hX k1 k2 => lv_if_eq hX.1 hX.2.1 d e1 k1 k2) kt kf
theorem xn_icmp_eq {a b : Int32} (d : xl_J M pc (fun o => .if_icmp .eq o) pc2 tgt) (kt : a = b → xn_W S Nn M rc rs tgt L st h Po) (kf : ¬ (a = b) → xn_W S Nn M rc rs pc2 L st h Po) : xn_W S Nn M rc rs pc L (.int b :: .int a :: st) h Po := by
  obtain ⟨off, d, e1, rfl⟩ := d
  exact xn_if (fun hX k1 k2 => lv_icmp_eq hX.1 hX.2.1 d e1 k1 k2) kt kf
theorem xn_if_ne {a : Int32} (d : xl_J M pc (fun o => .ifCond .ne o) pc2 tgt) (kt : ¬ a = 0 → xn_W S Nn M rc rs tgt L st h Po) (kf : a = 0 → xn_W S Nn M rc rs pc2 L st h Po) : xn_W S Nn M rc rs pc L (.int a :: st) h Po := by
  obtain ⟨off, d, e1, rfl⟩ := d
  exact xn_if (P := ¬ a = 0) (fun hX k1 k2 => lv_if_ne hX.1 hX.2.1 d e1 k1 (fun q => k2 (fun z => z q))) kt (fun q => kf (Classical.not_not.mp q))
theorem xn_icmp_ne {a b : Int32} (d : xl_J M pc (fun o => .if_icmp .ne o) pc2 tgt) (kt : ¬ a = b → xn_W S Nn M rc rs tgt L st h Po) (kf : a = b → xn_W S Nn M rc rs pc2 L st h Po) : xn_W S Nn M rc rs pc L (.int b :: .int a :: st) h Po := by
  obtain ⟨off, d, e1, rfl⟩ := d
  exact xn_if (P := ¬ a = b) (fun hX k1 k2 => lv_icmp_ne hX.1 hX.2.1 d e1 k1 (fun q => k2 (fun z => z q))) kt (fun q => kf (Classical.not_not.mp q))
theorem xn_if_lt {a : Int32} (d : xl_J M pc (fun o => .ifCond .lt o) pc2 tgt) (kt : a < 0 → xn_W S Nn M rc rs tgt L st h Po) (kf : ¬ (a < 0) → xn_W S Nn M rc rs pc2 L st h Po) : xn_W S Nn M rc rs pc L (.int a :: st) h Po := by
  obtain ⟨off, d, e1, rfl⟩ := d
  exact xn_if (fun hX k1 k2 => lv_if_lt hX.1 hX.2.1 d e1 k1 k2) kt kf
theorem xn_icmp_lt {a b : Int32} (d : xl_J M pc (fun o => .if_icmp .lt o) pc2 tgt) (kt : a < b → xn_W S Nn M rc rs tgt L st h Po) (kf : ¬ (a < b) → xn_W S Nn M rc rs pc2 L st h Po) : xn_W S Nn M rc rs pc L (.int b :: .int a :: st) h Po := by
  obtain ⟨off, d, e1, rfl⟩ := d
  exact xn_if (fun hX k1 k2 => lv_icmp_lt hX.1 hX.2.1 d e1 k1 k2) kt kf
theorem xn_if_ge {a : Int32} (d : xl_J M pc (fun o => .ifCond .ge o) pc2 tgt) (kt : 0 ≤ a → xn_W S Nn M rc rs tgt L st h Po) (kf : ¬ (0 ≤ a) → xn_W S Nn M rc rs pc2 L st h Po) : xn_W S Nn M rc rs pc L (.int a :: st) h Po := by
  obtain ⟨off, d, e1, rfl⟩ := d
  exact xn_if (fun hX k1 k2 => lv_if_ge hX.1 hX.2.1 d e1 k1 k2) kt kf
theorem xn_icmp_ge {a b : Int32} (d : xl_J M pc (fun o => .if_icmp .ge o) pc2 tgt) (kt : b ≤ a → xn_W S Nn M rc rs tgt L st h Po) (kf : ¬ (b ≤ a) → xn_W S Nn M rc rs pc2 L st h Po) : xn_W S Nn M rc rs pc L (.int b :: .int a :: st) h Po := by
  obtain ⟨off, d, e1, rfl⟩ := d
  exact xn_if (fun hX k1 k2 => lv_icmp_ge hX.1 hX.2.1 d e1 k1 k2) kt kf
theorem xn_if_gt {a : Int32} (d : xl_J M pc (fun o => .ifCond .gt o) pc2 tgt) (kt : 0 < a → xn_W S Nn M rc rs tgt L st h Po) (kf : ¬ (0 < a) → xn_W S Nn M rc rs pc2 L st h Po) : xn_W S Nn M rc rs pc L (.int a :: st) h Po := by
  obtain ⟨off, d, e1, rfl⟩ := d
  exact xn_if (fun hX k1 k2 => lv_if_gt hX.1 hX.2.1 d e1 k1 k2) kt kf
theorem xn_icmp_gt {a b : Int32} (d : xl_J M pc (fun o => .if_icmp .gt o) pc2 tgt) (kt : b < a → xn_W S Nn M rc rs tgt L st h Po) (kf : ¬ (b < a) → xn_W S Nn M rc rs pc2 L st h Po) : xn_W S Nn M rc rs pc L (.int b :: .int a :: st) h Po := by
  obtain ⟨off, d, e1, rfl⟩ := d
  exact xn_if (fun hX k1 k2 => lv_icmp_gt hX.1 hX.2.1 d e1 k1 k2) kt kf
theorem xn_if_le {a : Int32} (d : xl_J M pc (fun o => .ifCond .le o) pc2 tgt) (kt : a ≤ 0 → xn_W S Nn M rc rs tgt L st h Po) (kf : ¬ (a ≤ 0) → xn_W S Nn M rc rs pc2 L st h Po) : xn_W S Nn M rc rs pc L (.int a :: st) h Po := by
  obtain ⟨off, d, e1, rfl⟩ := d
  exact xn_if (fun hX k1 k2 => lv_if_le hX.1 hX.2.1 d e1 k1 k2) kt kf
theorem xn_icmp_le {a b : Int32} (d : xl_J M pc (fun o => .if_icmp .le o) pc2 tgt) (kt : a ≤ b → xn_W S Nn M rc rs tgt L st h Po) (kf : ¬ (a ≤ b) → xn_W S Nn M rc rs pc2 L st h Po) : xn_W S Nn M rc rs pc L (.int b :: .int a :: st) h Po := by
  obtain ⟨off, d, e1, rfl⟩ := d
  exact xn_if (fun hX k1 k2 => lv_icmp_le hX.1 hX.2.1 d e1 k1 k2) kt kf
theorem xn_gl {v : Value} {i : Nat} (hl : xl_n L i = some (some v)) (f : ∀ {p : Program} {l : Launch} {e : Env} {R : Room} {s : State} {m : MethodId} {args : Array Value} {below : List Frame} {meth : Method} {c : Code} {H : Heap} {locs : List Loc} {cells slots : Nat} {Q : State → Prop} {ls : Array Slot} {ρ σ : Nat → Nat}, xl_X M l p R s m args meth c → ls[i]? = some (.val (xl_v ρ σ v)) → W p l e R s m args below meth c H locs cells slots Q (F0 m pc2 ls (st2.map (xl_v ρ σ))) → W p l e R s m args below meth c H locs cells slots Q (F0 m pc ls (st.map (xl_v ρ σ))))
    (k : xn_W S Nn M rc rs pc2 L st2 h Po) : xn_W S Nn M rc rs pc L st h Po := by
  intro p l e R s m args below meth c D aC ρ σ aV A H locs cells slots ls Q hX hH hL h1 h2 hr ht hZ
  exact f hX (hL.2.2 i v hl) (k p l e R s m args below meth c D aC ρ σ aV A H locs cells slots ls Q hX hH hL h1 h2 hr ht hZ)
theorem xn_iload {i : Nat} {a : Int32} (d : xl_D M pc (.iload i) 2 pc2) (hl : xl_n L i = some (some (.int a))) (k : xn_W S Nn M rc rs pc2 L (.int a :: st) h Po) : xn_W S Nn M rc rs pc L st h Po := by
  obtain ⟨d, rfl⟩ := d
  exact xn_gl hl (fun hX hl k => lv_iload hX.1 hX.2.1 d hl k) k
theorem xn_iload_n {i : Fin 4} {a : Int32} (d : xl_D M pc (.iload_n i) 1 pc2) (hl : xl_n L i.val = some (some (.int a))) (k : xn_W S Nn M rc rs pc2 L (.int a :: st) h Po) : xn_W S Nn M rc rs pc L st h Po := by
  obtain ⟨d, rfl⟩ := d
  exact xn_gl hl (fun hX hl k => lv_iload_n hX.1 hX.2.1 d rfl hl k) k
theorem xn_lload {i : Nat} {a : Int64} (d : xl_D M pc (.lload i) 2 pc2) (hl : xl_n L i = some (some (.long a))) (k : xn_W S Nn M rc rs pc2 L (.long a :: st) h Po) : xn_W S Nn M rc rs pc L st h Po := by
  obtain ⟨d, rfl⟩ := d
  exact xn_gl hl (fun hX hl k => lv_lload hX.1 hX.2.1 d hl k) k
theorem xn_lload_n {i : Fin 4} {a : Int64} (d : xl_D M pc (.lload_n i) 1 pc2) (hl : xl_n L i.val = some (some (.long a))) (k : xn_W S Nn M rc rs pc2 L (.long a :: st) h Po) : xn_W S Nn M rc rs pc L st h Po := by
  obtain ⟨d, rfl⟩ := d
  exact xn_gl hl (fun hX hl k => lv_lload_n hX.1 hX.2.1 d rfl hl k) k
theorem xn_aload {i : Nat} {a : Nat} (d : xl_D M pc (.aload i) 2 pc2) (hl : xl_n L i = some (some (.ref a))) (k : xn_W S Nn M rc rs pc2 L (.ref a :: st) h Po) : xn_W S Nn M rc rs pc L st h Po := by
  obtain ⟨d, rfl⟩ := d
  exact xn_gl hl (fun hX hl k => lv_aload hX.1 hX.2.1 d hl k) k
theorem xn_aload_n {i : Fin 4} {a : Nat} (d : xl_D M pc (.aload_n i) 1 pc2) (hl : xl_n L i.val = some (some (.ref a))) (k : xn_W S Nn M rc rs pc2 L (.ref a :: st) h Po) : xn_W S Nn M rc rs pc L st h Po := by
  obtain ⟨d, rfl⟩ := d
  exact xn_gl hl (fun hX hl k => lv_aload_n hX.1 hX.2.1 d rfl hl k) k
theorem xn_saload {i : Nat} {a : UInt32} (d : xl_D M pc (.aload i) 2 pc2) (hl : xl_n L i = some (some (.float a))) (k : xn_W S Nn M rc rs pc2 L (.float a :: st) h Po) : xn_W S Nn M rc rs pc L st h Po := by
  obtain ⟨d, rfl⟩ := d
  exact xn_gl hl (fun hX hl k => lv_aload hX.1 hX.2.1 d hl k) k
theorem xn_saload_n {i : Fin 4} {a : UInt32} (d : xl_D M pc (.aload_n i) 1 pc2) (hl : xl_n L i.val = some (some (.float a))) (k : xn_W S Nn M rc rs pc2 L (.float a :: st) h Po) : xn_W S Nn M rc rs pc L st h Po := by
  obtain ⟨d, rfl⟩ := d
  exact xn_gl hl (fun hX hl k => lv_aload_n hX.1 hX.2.1 d rfl hl k) k
theorem xn_gs {v : Value} {i : Nat} (hk : xl_k L i = true) (hn : i < M.2.2.1) (f : ∀ {p : Program} {l : Launch} {e : Env} {R : Room} {s : State} {m : MethodId} {args : Array Value} {below : List Frame} {meth : Method} {c : Code} {H : Heap} {locs : List Loc} {cells slots : Nat} {Q : State → Prop} {ls : Array Slot} {ρ σ : Nat → Nat} {lv : List (Nat × Value)}, xl_X M l p R s m args meth c → lv_has ls M.2.2.1 lv → (∀ ls' : Array Slot, lv_has ls' M.2.2.1 ((i, xl_v ρ σ v) :: lv.filter (fun q => !(q.1 == i) && !(q.1 + 1 == i && q.2.category == 2))) → W p l e R s m args below meth c H locs cells slots Q (F0 m pc2 ls' (st2.map (xl_v ρ σ)))) → W p l e R s m args below meth c H locs cells slots Q (F0 m pc ls (st.map (xl_v ρ σ))))
    (k : xn_W S Nn M rc rs pc2 (xl_s L i (some v)) st2 h Po) : xn_W S Nn M rc rs pc L st h Po := by
  intro p l e R s m args below meth c D aC ρ σ aV A H locs cells slots ls Q hX hH hL h1 h2 hr ht hZ
  exact f hX hL.has (fun ls' hl => k p l e R s m args below meth c D aC ρ σ aV A H locs cells slots ls' Q hX hH (xl_L.put hk hl) h1 h2 hr ht hZ)
theorem xn_istore {i : Nat} {a : Int32} (d : xl_D M pc (.istore i) 2 pc2) (hk : xl_k L i = true) (hn : i < M.2.2.1) (k : xn_W S Nn M rc rs pc2 (xl_s L i (some (.int a))) st h Po) : xn_W S Nn M rc rs pc L (.int a :: st) h Po := by
  obtain ⟨d, rfl⟩ := d
  exact xn_gs (v := .int a) hk hn (fun hX hl k => lv_istore hX.1 hX.2.1 d hl hn rfl k) k
theorem xn_istore_n {i : Fin 4} {a : Int32} (d : xl_D M pc (.istore_n i) 1 pc2) (hk : xl_k L i.val = true) (hn : i.val < M.2.2.1) (k : xn_W S Nn M rc rs pc2 (xl_s L i.val (some (.int a))) st h Po) : xn_W S Nn M rc rs pc L (.int a :: st) h Po := by
  obtain ⟨d, rfl⟩ := d
  exact xn_gs (v := .int a) hk hn (fun hX hl k => lv_istore_n hX.1 hX.2.1 d rfl hl hn rfl k) k
theorem xn_astore {i : Nat} {a : Nat} (d : xl_D M pc (.astore i) 2 pc2) (hk : xl_k L i = true) (hn : i < M.2.2.1) (k : xn_W S Nn M rc rs pc2 (xl_s L i (some (.ref a))) st h Po) : xn_W S Nn M rc rs pc L (.ref a :: st) h Po := by
  obtain ⟨d, rfl⟩ := d
  exact xn_gs (v := .ref a) hk hn (fun hX hl k => lv_astore hX.1 hX.2.1 d hl hn rfl k) k
theorem xn_astore_n {i : Fin 4} {a : Nat} (d : xl_D M pc (.astore_n i) 1 pc2) (hk : xl_k L i.val = true) (hn : i.val < M.2.2.1) (k : xn_W S Nn M rc rs pc2 (xl_s L i.val (some (.ref a))) st h Po) : xn_W S Nn M rc rs pc L (.ref a :: st) h Po := by
  obtain ⟨d, rfl⟩ := d
  exact xn_gs (v := .ref a) hk hn (fun hX hl k => lv_astore_n hX.1 hX.2.1 d rfl hl hn rfl k) k
theorem xn_sastore {i : Nat} {a : UInt32} (d : xl_D M pc (.astore i) 2 pc2) (hk : xl_k L i = true) (hn : i < M.2.2.1) (k : xn_W S Nn M rc rs pc2 (xl_s L i (some (.float a))) st h Po) : xn_W S Nn M rc rs pc L (.float a :: st) h Po := by
  obtain ⟨d, rfl⟩ := d
  exact xn_gs (v := .float a) hk hn (fun hX hl k => lv_astore hX.1 hX.2.1 d hl hn rfl k) k
theorem xn_sastore_n {i : Fin 4} {a : UInt32} (d : xl_D M pc (.astore_n i) 1 pc2) (hk : xl_k L i.val = true) (hn : i.val < M.2.2.1) (k : xn_W S Nn M rc rs pc2 (xl_s L i.val (some (.float a))) st h Po) : xn_W S Nn M rc rs pc L (.float a :: st) h Po := by
  obtain ⟨d, rfl⟩ := d
  exact xn_gs (v := .float a) hk hn (fun hX hl k => lv_astore_n hX.1 hX.2.1 d rfl hl hn rfl k) k
theorem xn_iinc {i : Nat} {n : Int} {a : Int32} (d : xl_D M pc (.iinc i n) 3 pc2) (hl : xl_n L i = some (some (.int a))) (hk : xl_k L i = true) (hn : i < M.2.2.1) (k : xn_W S Nn M rc rs pc2 (xl_s L i (some (.int (a + Int32.ofInt n)))) st h Po) : xn_W S Nn M rc rs pc L st h Po := by
  obtain ⟨d, rfl⟩ := d
  intro p l e R s m args below meth c D aC ρ σ aV A H locs cells slots ls Q hX hH hL h1 h2 hr ht hZ
  obtain ⟨q, hq⟩ := List.getElem?_of_mem (xl_p_mem.mpr ⟨_, hl, rfl⟩ : (i, xl_v ρ σ (.int a)) ∈ xl_p ρ σ L)
  exact lv_iinc hX.1 hX.2.1 d hL.has hq rfl hn rfl (fun ls' hl => k p l e R s m args below meth c D aC ρ σ aV A H locs cells slots ls' Q hX hH (xl_L.put (v := .int (a + Int32.ofInt n)) hk hl) h1 h2 hr ht hZ)
theorem xn_ret {v : Option Value} (hP : Po (some v) h) (d : xl_R M pc v) : xn_W S Nn M rc rs pc L v.toList h Po := by
  intro p l e R s m args below meth c D aC ρ σ aV A H locs cells slots ls Q hX hH hL h1 h2 hr ht hZ
  exact hr ρ v h H locs pc cells slots ls (fun _ _ => rfl) hP hH d (by omega) (by omega)
theorem xn_thr (hP : Po none h) (d : xl_Y M pc) : xn_W S Nn M (rc + 1) (rs + 6) pc L [] h Po := by
  intro p l e R s m args below meth c D aC ρ σ aV A H locs cells slots ls Q hX hH hL h1 h2 hr ht hZ
  exact ht ρ h H locs pc cells slots ls (fun _ _ => rfl) hP hH d (by omega) (by omega) hL.1
theorem xn_ireturn {a : Int32} (d : xl_D M pc .ireturn 1 pc2) (hr : M.2.2.2.1 = some .int) (hP : Po (some (some (.int a))) h) : xn_W S Nn M rc rs pc L [.int a] h Po :=
  xn_ret (v := some (.int a)) hP ⟨⟨.int, hr, rfl⟩, d.1⟩
theorem xn_zreturn {a : Int32} (d : xl_D M pc .ireturn 1 pc2) (hr : M.2.2.2.1 = some .boolean) (h01 : a = 0 ∨ a = 1) (hP : Po (some (some (.int a))) h) : xn_W S Nn M rc rs pc L [.int a] h Po :=
  xn_ret (v := some (.int a)) hP ⟨⟨.boolean, hr, by rcases h01 with rfl | rfl <;> decide⟩, d.1⟩
theorem xn_lreturn {a : Int64} (d : xl_D M pc .lreturn 1 pc2) (hr : M.2.2.2.1 = some .long) (hP : Po (some (some (.long a))) h) : xn_W S Nn M rc rs pc L [.long a] h Po :=
  xn_ret (v := some (.long a)) hP ⟨hr, d.1⟩
theorem xn_sreturn {a : UInt32} {n : String} (d : xl_D M pc .areturn 1 pc2) (hr : M.2.2.2.1 = some (.object n)) (hP : Po (some (some (.float a))) h) : xn_W S Nn M rc rs pc L [.float a] h Po :=
  xn_ret (v := some (.float a)) hP ⟨⟨n, hr⟩, d.1⟩
theorem xn_return (d : xl_D M pc .return_ 1 pc2) (hr : M.2.2.2.1 = none) (hP : Po (some none) h) : xn_W S Nn M rc rs pc L [] h Po :=
  xn_ret (v := none) hP ⟨hr, d.1⟩
theorem xn_get {ci k r : Nat} {fs : List Value} {v : Value} (d : xl_G M pc ci k pc2) (hh : xl_n h r = some (.inr (ci, fs))) (hf : xl_n fs k = some v) (kk : xn_W S Nn M rc rs pc2 L (xl_o r v :: st) h Po) : xn_W S Nn M rc rs pc L (.ref r :: st) h Po := by
  obtain ⟨i, d, rfl, C, T, N, e1, e2, e3, e4⟩ := d
  intro p l e R s m args below meth c D aC ρ σ aV A H locs cells slots ls Q hX hH hL h1 h2 hr ht hZ
  obtain ⟨hK, hP, hD, hS, hE, hA⟩ := id hH
  rw [xl_n_eq] at hh hf
  have hv : (fs.map (xl_v (fun d => ρ (r + d)) σ))[k]? = some (xl_v (fun d => ρ (r + d)) σ v) := by rw [List.getElem?_map, hf]; rfl
  refine va_get hX.1 hX.2.1 hX.2.2.2.2.2.1 e3 hX.2.2.2.2.1 hK hP r (xl_w_of hh) e1 k e2 (hX.2.2.2.2.2.1 _ e4) (fun _ h9 => h9) hv d ?_
  rw [← xl_o_v]
  exact kk p l e R s m args below meth c D aC ρ σ aV A H locs cells slots ls Q hX hH hL h1 h2 hr ht hZ
theorem xn_put {ci k r : Nat} {fs : List Value} {a : Int32} (d : xl_P M pc ci k .int pc2) (hh : xl_n h r = some (.inr (ci, fs))) (hf : k < fs.length) (kk : xn_W S Nn M rc rs pc2 L st (xl_s h r (.inr (ci, xl_s fs k (.int a)))) Po) : xn_W S Nn M rc rs pc L (.int a :: .ref r :: st) h Po := by
  obtain ⟨i, d, rfl, C, T, N, ty0, e1, e2, e3, e4, e5, e6, e7, e8⟩ := d
  intro p l e R s m args below meth c D aC ρ σ aV A H locs cells slots ls Q hX hH hL h1 h2 hr ht hZ
  obtain ⟨hK, hP, hD, hS, hE, hA⟩ := id hH
  rw [xl_n_eq] at hh
  refine va_put hX.1 hX.2.1 hX.2.2.2.2.2.1 e3 ty0 e5 e6 hX.2.2.2.2.1 hK hP hD hS r (xl_w_of hh) e1 k e2 (hX.2.2.2.2.2.1 _ e4) (fun _ h9 => h9) e7 e8 (v := .int a) rfl rfl (by rw [List.length_map]; exact hf) d (fun H1 locs1 hP1 hD1 hS1 => ?_)
  have ew : (xl_w aC ρ σ h).set r (ρ r, Sum.inr (ci, (fs.map (xl_v (fun d => ρ (r + d)) σ)).set k (.int a))) = xl_w aC ρ σ (xl_s h r (.inr (ci, xl_s fs k (.int a)))) := by
    rw [xl_s_eq, xl_s_eq, ← xl_w_set]
    show _ = (xl_w aC ρ σ h).set r (ρ r, Sum.inr (ci, (fs.set k (.int a)).map (xl_v (fun d => ρ (r + d)) σ)))
    rw [List.map_set]
    rfl
  rw [ew] at hP1 hD1
  exact kk p l e R s m args below meth c D aC ρ σ aV A H1 locs1 cells slots ls Q hX ⟨hK, hP1, hD1, hS1, hE, hA⟩ hL h1 h2 hr ht hZ
theorem xn_iald {r n : Nat} {f : Nat → Int32} {i : Int32} (d : xl_D M pc .iaload 1 pc2) (hh : xl_n h r = some (.inl (0, n, .inl f))) (hin : vp_in i n) (kk : xn_W S Nn M rc rs pc2 L (.int (f i.toNatClampNeg) :: st) h Po) : xn_W S Nn M rc rs pc L (.int i :: .ref r :: st) h Po := by
  obtain ⟨d, rfl⟩ := d
  intro p l e R s m args below meth c D aC ρ σ aV A H locs cells slots ls Q hX hH hL h1 h2 hr ht hZ
  obtain ⟨hK, hP, hD, hS, hE, hA⟩ := id hH
  rw [xl_n_eq] at hh
  exact va_iald hX.1 hX.2.1 hK hP r 0 (xl_w_of hh) rfl hin d (kk p l e R s m args below meth c D aC ρ σ aV A H locs cells slots ls Q hX hH hL h1 h2 hr ht hZ)
theorem xn_lald {r n : Nat} {f : Nat → Int64} {i : Int32} (d : xl_D M pc .laload 1 pc2) (hh : xl_n h r = some (.inl (1, n, .inr (.inl f)))) (hin : vp_in i n) (kk : xn_W S Nn M rc rs pc2 L (.long (f i.toNatClampNeg) :: st) h Po) : xn_W S Nn M rc rs pc L (.int i :: .ref r :: st) h Po := by
  obtain ⟨d, rfl⟩ := d
  intro p l e R s m args below meth c D aC ρ σ aV A H locs cells slots ls Q hX hH hL h1 h2 hr ht hZ
  obtain ⟨hK, hP, hD, hS, hE, hA⟩ := id hH
  rw [xl_n_eq] at hh
  exact va_lald hX.1 hX.2.1 hK hP r 1 (xl_w_of hh) rfl hin d (kk p l e R s m args below meth c D aC ρ σ aV A H locs cells slots ls Q hX hH hL h1 h2 hr ht hZ)
theorem xn_zald {r n : Nat} {f : Nat → Int32} {i : Int32} (d : xl_D M pc .baload 1 pc2) (hh : xl_n h r = some (.inl (2, n, .inl f))) (hin : vp_in i n) (kk : xn_W S Nn M rc rs pc2 L (.int (f i.toNatClampNeg) :: st) h Po) : xn_W S Nn M rc rs pc L (.int i :: .ref r :: st) h Po := by
  obtain ⟨d, rfl⟩ := d
  intro p l e R s m args below meth c D aC ρ σ aV A H locs cells slots ls Q hX hH hL h1 h2 hr ht hZ
  obtain ⟨hK, hP, hD, hS, hE, hA⟩ := id hH
  rw [xl_n_eq] at hh
  exact va_zald hX.1 hX.2.1 hK hP r 2 (xl_w_of hh) rfl hin d (kk p l e R s m args below meth c D aC ρ σ aV A H locs cells slots ls Q hX hH hL h1 h2 hr ht hZ)
theorem xn_aald {r n q : Nat} {f : Nat → Option Nat} {i : Int32} (d : xl_D M pc .aaload 1 pc2) (hh : xl_n h r = some (.inl (3, n, .inr (.inr (.inr (.inr f)))))) (hin : vp_in i n) (hq : f i.toNatClampNeg = some q) (kk : xn_W S Nn M rc rs pc2 L (.ref (r + q) :: st) h Po) : xn_W S Nn M rc rs pc L (.int i :: .ref r :: st) h Po := by
  obtain ⟨d, rfl⟩ := d
  intro p l e R s m args below meth c D aC ρ σ aV A H locs cells slots ls Q hX hH hL h1 h2 hr ht hZ
  obtain ⟨hK, hP, hD, hS, hE, hA⟩ := id hH
  rw [xl_n_eq] at hh
  refine va_aldq hX.1 hX.2.1 hK hP r 3 (xl_w_of hh) rfl hin d ?_
  rw [show va_rf ((f i.toNatClampNeg).map (fun d => ρ (r + d))) = .ref (ρ (r + q)) by rw [hq]; rfl]
  exact kk p l e R s m args below meth c D aC ρ σ aV A H locs cells slots ls Q hX hH hL h1 h2 hr ht hZ
theorem xn_alen {r n : Nat} {t : Nat} {a : (Nat → Int32) ⊕ (Nat → Int64) ⊕ (Nat → UInt32) ⊕ (Nat → UInt64) ⊕ (Nat → Option Nat)} (d : xl_D M pc .arraylength 1 pc2) (hh : xl_n h r = some (.inl (t, n, a))) (ht4 : t < 4) (kk : xn_W S Nn M rc rs pc2 L (.int (nI n) :: st) h Po) : xn_W S Nn M rc rs pc L (.ref r :: st) h Po := by
  obtain ⟨d, rfl⟩ := d
  intro p l e R s m args below meth c D aC ρ σ aV A H locs cells slots ls Q hX hH hL h1 h2 hr ht hZ
  obtain ⟨hK, hP, hD, hS, hE, hA⟩ := id hH
  rw [xl_n_eq] at hh
  have kk := kk p l e R s m args below meth c D aC ρ σ aV A H locs cells slots ls Q hX hH hL h1 h2 hr ht hZ
  match t, ht4, hh with
  | 0, _, hh => exact va_alen hX.1 hX.2.1 hK hP r 0 (xl_w_of hh) rfl rfl d kk
  | 1, _, hh => exact va_alen hX.1 hX.2.1 hK hP r 1 (xl_w_of hh) rfl rfl d kk
  | 2, _, hh => exact va_alen hX.1 hX.2.1 hK hP r 2 (xl_w_of hh) rfl rfl d kk
  | 3, _, hh => exact va_alen hX.1 hX.2.1 hK hP r 3 (xl_w_of hh) rfl rfl d kk
theorem xn_iast {r n : Nat} {f : Nat → Int32} {i a : Int32} (d : xl_D M pc .iastore 1 pc2) (hh : xl_n h r = some (.inl (0, n, .inl f))) (hin : vp_in i n) (kk : xn_W S Nn M rc rs pc2 L st (xl_s h r (.inl (0, n, .inl (upd f i.toNatClampNeg a)))) Po) : xn_W S Nn M rc rs pc L (.int a :: .int i :: .ref r :: st) h Po := by
  obtain ⟨d, rfl⟩ := d
  intro p l e R s m args below meth c D aC ρ σ aV A H locs cells slots ls Q hX hH hL h1 h2 hr ht hZ
  obtain ⟨hK, hP, hD, hS, hE, hA⟩ := id hH
  rw [xl_n_eq] at hh
  refine va_iast hX.1 hX.2.1 hK hP hD hS r 0 (xl_w_of hh) rfl hin d (fun H1 locs1 hP1 hD1 hS1 => ?_)
  exact kk p l e R s m args below meth c D aC ρ σ aV A H1 locs1 cells slots ls Q hX ⟨hK, by rw [xl_w_s]; exact hP1, by rw [xl_w_s]; exact hD1, hS1, hE, hA⟩ hL h1 h2 hr ht hZ
theorem xn_last {r n : Nat} {f : Nat → Int64} {i : Int32} {a : Int64} (d : xl_D M pc .lastore 1 pc2) (hh : xl_n h r = some (.inl (1, n, .inr (.inl f)))) (hin : vp_in i n) (kk : xn_W S Nn M rc rs pc2 L st (xl_s h r (.inl (1, n, .inr (.inl (vp_updL f i.toNatClampNeg a))))) Po) : xn_W S Nn M rc rs pc L (.long a :: .int i :: .ref r :: st) h Po := by
  obtain ⟨d, rfl⟩ := d
  intro p l e R s m args below meth c D aC ρ σ aV A H locs cells slots ls Q hX hH hL h1 h2 hr ht hZ
  obtain ⟨hK, hP, hD, hS, hE, hA⟩ := id hH
  rw [xl_n_eq] at hh
  refine va_last hX.1 hX.2.1 hK hP hD hS r 1 (xl_w_of hh) rfl hin d (fun H1 locs1 hP1 hD1 hS1 => ?_)
  exact kk p l e R s m args below meth c D aC ρ σ aV A H1 locs1 cells slots ls Q hX ⟨hK, by rw [xl_w_s]; exact hP1, by rw [xl_w_s]; exact hD1, hS1, hE, hA⟩ hL h1 h2 hr ht hZ
theorem xn_zast {r n : Nat} {f : Nat → Int32} {i a : Int32} (d : xl_D M pc .bastore 1 pc2) (hh : xl_n h r = some (.inl (2, n, .inl f))) (hin : vp_in i n) (kk : xn_W S Nn M rc rs pc2 L st (xl_s h r (.inl (2, n, .inl (upd f i.toNatClampNeg (vp_nar .boolean a))))) Po) : xn_W S Nn M rc rs pc L (.int a :: .int i :: .ref r :: st) h Po := by
  obtain ⟨d, rfl⟩ := d
  intro p l e R s m args below meth c D aC ρ σ aV A H locs cells slots ls Q hX hH hL h1 h2 hr ht hZ
  obtain ⟨hK, hP, hD, hS, hE, hA⟩ := id hH
  rw [xl_n_eq] at hh
  refine va_zast hX.1 hX.2.1 hK hP hD hS r 2 (xl_w_of hh) rfl hin d (fun H1 locs1 hP1 hD1 hS1 => ?_)
  exact kk p l e R s m args below meth c D aC ρ σ aV A H1 locs1 cells slots ls Q hX ⟨hK, by rw [xl_w_s]; exact hP1, by rw [xl_w_s]; exact hD1, hS1, hE, hA⟩ hL h1 h2 hr ht hZ
end XN
/-! ===== the script ===== -/
section XNS
variable {Nn : Nat} {M : XI} {rc rs pc pc2 : Nat} {L : List (Option Value)} {st : List Value} {h : XH} {Po : Option (Option Value) → XH → Prop} {N : Nat} {xs : Nat → Int32} {Zz : (Nat → Prop) → State → Prop}
theorem xn_sld {i : Int32} (d : xl_D M pc .iaload 1 pc2) (hin : vp_in i N) (kk : xn_W (some (N, xs, Zz)) Nn M rc rs pc2 L (.int (xs i.toNatClampNeg) :: st) h Po) : xn_W (some (N, xs, Zz)) Nn M rc rs pc L (.int i :: .float 99 :: st) h Po := by
  obtain ⟨d, rfl⟩ := d
  intro p l e R s m args below meth c D aC ρ σ aV A H locs cells slots ls Q hX hH hL h1 h2 hr ht hZ
  obtain ⟨z1, z2, z3, -⟩ := hZ.2.2
  exact va_sld hX.1 hX.2.1 z1 z2 z3 hH.2.2.2.1 hin d (kk p l e R s m args below meth c D aC ρ σ aV A H locs cells slots ls Q hX hH hL h1 h2 hr ht hZ)
theorem xn_slen (d : xl_D M pc .arraylength 1 pc2) (kk : xn_W (some (N, xs, Zz)) Nn M rc rs pc2 L (.int (nI N) :: st) h Po) : xn_W (some (N, xs, Zz)) Nn M rc rs pc L (.float 99 :: st) h Po := by
  obtain ⟨d, rfl⟩ := d
  intro p l e R s m args below meth c D aC ρ σ aV A H locs cells slots ls Q hX hH hL h1 h2 hr ht hZ
  obtain ⟨z1, z2, z3, -⟩ := hZ.2.2
  exact va_slen hX.1 hX.2.1 z1 z2 z3 hH.2.2.2.1 d (kk p l e R s m args below meth c D aC ρ σ aV A H locs cells slots ls Q hX hH hL h1 h2 hr ht hZ)
end XNS
end
-- 79.xm
section
/-! ===== new: a cell more, and a place more ===== -/
def xn_up (ρ : Nat → Nat) (n q : Nat) : Nat → Nat := fun i => bif Nat.beq i n then q else ρ i
/-- nothing points behind the cells -/
def xn_fr (n : Nat) (L : List (Option Value)) (st : List Value) (h : XH) : Prop := ∀ (ρ σ : Nat → Nat) (q : Nat), (∀ aC, xl_w aC (xn_up ρ n q) σ h = xl_w aC ρ σ h) ∧ st.map (xl_v (xn_up ρ n q) σ) = st.map (xl_v ρ σ) ∧ ∀ N ls, xl_L ρ σ N ls L → xl_L (xn_up ρ n q) σ N ls L
def xn_Nw (M : XI) (pc ci : Nat) (fs : List Value) (N pc2 : Nat) : Prop := ∃ (i : Nat) (C : String) (T : u_T) (ty : Nat → FieldType), decode M.2.1 pc = .ok (.new i, 3) ∧ pc + 3 = pc2 ∧ vwCl[ci]? = some (C, T, N) ∧ (∀ w ∈ u_ws C T N, w ∈ xl_T) ∧ Cond.classLink M.1.cls i C ∈ xl_T ∧ Cond.instantiable C N ∈ xl_T ∧ Cond.initialized C ∈ xl_T ∧ (∀ k, k < N → parseFieldDescriptor (T k).2.2.1 = some (ty k)) ∧ (∀ j, j < N → defaultValue (ty j) = vp_V fs j)
theorem xl_w_snoc (aC : Nat → ClassId) (ρ σ : Nat → Nat) (h : XH) (c : XE) : xl_w aC ρ σ (h ++ [c]) = xl_w aC ρ σ h ++ [(ρ h.length, xl_c aC ρ σ h.length c)] := by
  simp [xl_w, List.mapIdx_append]
theorem xn_new {S : XS} {Nn : Nat} {M : XI} {rc rs pc pc2 : Nat} {L : List (Option Value)} {st : List Value} {h : XH} {Po : Option (Option Value) → XH → Prop} {ci N : Nat} {fs : List Value} (d : xn_Nw M pc ci fs N pc2) (hn : Nn ≤ h.length) (hf : xn_fr h.length L st h) (hv : ∀ ρ σ, fs.map (xl_v ρ σ) = fs) (k : xn_W S Nn M rc rs pc2 L (.ref h.length :: st) (h ++ [.inr (ci, fs)]) Po) : xn_W S Nn M (rc + 1) (rs + N) pc L st h Po := by
  intro p l e R s m args below meth c D aC ρ σ aV A H locs cells slots ls Q hX hH hL h1 h2 hr ht hZ
  obtain ⟨i, C, T, ty, d1, rfl, d2, d3, d4, d5, d6, d7, d8⟩ := d
  obtain ⟨g1, g2, g3, g4, g5, g6⟩ := hH
  refine va_new hX.1 hX.2.1 hX.2.2.2.2.2.1 d3 ty d7 hX.2.2.2.2.1 (hX.2.2.2.2.2.1 _ d4) (hX.2.2.2.2.2.1 _ d5) (hX.2.2.2.2.2.1 _ d6) g1 g2 g3 g4 g6 d2 d8 (by omega) (by omega) d1 (fun q H1 q1 q2 q3 => ?_)
  obtain ⟨f1, f2, f3⟩ := hf ρ σ q
  have eq : xn_up ρ h.length q h.length = q := by
    unfold xn_up
    rw [Nat.beq_refl]
    rfl
  have ew : xl_w aC (xn_up ρ h.length q) σ (h ++ [.inr (ci, fs)]) = xl_w aC ρ σ h ++ [(q, .inr (ci, fs))] := by
    rw [xl_w_snoc, f1, eq]
    show _ ++ [(q, Sum.inr (ci, fs.map _))] = _
    rw [hv]
  have ek : ∀ i, i < Nn → xn_up ρ h.length q i = ρ i := by
    intro i hi
    unfold xn_up
    rw [beqF (by omega)]
    rfl
  have g := k p l e R s m args below meth c D aC (xn_up ρ h.length q) σ aV A H1 locs (cells + 1) (slots + N) ls Q hX ⟨g1, by rw [ew]; exact q1, by rw [ew]; exact q2, q3, g5, g6⟩ (f3 _ _ hL) (by omega) (by omega)
    (fun ρ' v h' H' locs' pc' cells' slots' ls' a1 a2 a3 a4 a5 a6 => hr ρ' v h' H' locs' pc' cells' slots' ls' (fun i hi => (a1 i hi).trans (ek i hi)) a2 a3 a4 (by omega) (by omega))
    (fun ρ' h' H' locs' pc' cells' slots' ls' a1 a2 a3 a4 a5 a6 a7 => ht ρ' h' H' locs' pc' cells' slots' ls' (fun i hi => (a1 i hi).trans (ek i hi)) a2 a3 a4 (by omega) (by omega) a7) hZ
  rw [List.map_cons, f2] at g
  have e0 : xl_v (xn_up ρ h.length q) σ (.ref h.length) = .ref q := by
    show Value.ref (xn_up ρ h.length q h.length) = .ref q
    rw [eq]
  rw [e0] at g
  exact g
/-- arrays of numbers -/
theorem xn_newa {S : XS} {Nn : Nat} {M : XI} {rc rs pc pc2 : Nat} {L : List (Option Value)} {st : List Value} {h : XH} {Po : Option (Option Value) → XH → Prop} {at0 : ArrayType} {t : Nat} {a0 : vp_A} {n : Int32} {N : Nat} (d : xl_D M pc (.newarray at0) 2 pc2) (hc : Cond.arrayClass (newarray.typeOf at0) ∈ xl_T) (ht0 : ∀ aC, (xl_ty aC)[t]? = some (aC t, newarray.typeOf at0)) (ha : ∀ cA : ClassId, vp_cell cA a0 = arrV cA N (fun _ => defaultValue (newarray.typeOf at0))) (h0 : ¬ n < 0) (hN : n.toNatClampNeg = N) (hB : N * componentBytes (newarray.typeOf at0) ≤ 536870912) (hn : Nn ≤ h.length) (hf : xn_fr h.length L st h) (hv : ∀ ρ k, xl_a ρ k a0.2 = a0.2) (k : xn_W S Nn M rc rs pc2 L (.ref h.length :: st) (h ++ [.inl (t, a0)]) Po) : xn_W S Nn M (rc + 1) (rs + N) pc L (.int n :: st) h Po := by
  intro p l e R s m args below meth c D aC ρ σ aV A H locs cells slots ls Q hX hH hL h1 h2 hr ht hZ
  obtain ⟨d1, rfl⟩ := d
  obtain ⟨g1, g2, g3, g4, g5, g6⟩ := hH
  refine va_newaK hX.1 hX.2.1 (hX.2.2.2.2.2.1 _ hc) (g := F0 m pc ls (.int n :: st.map (xl_v ρ σ))) rfl d1 rfl h0 hN hB (by omega) (by omega) rfl (fun H1 cA e1 z1 o1 hAr hNm => ?_)
  have ec : cA = aC t := Option.some.inj (hNm.symm.trans (hZ.1.1 t _ (ht0 aC)))
  subst ec
  obtain ⟨f1, f2, f3⟩ := hf ρ σ H.size
  have hk : ∀ (k : Nat) (x : Nat × va_E), (xl_w aC ρ σ h)[k]? = some x → H1[x.1]? = H[x.1]? := fun k x hx => o1 x.1 ((g2 k x hx).lt)
  have eq : xn_up ρ h.length H.size h.length = H.size := by
    unfold xn_up
    rw [Nat.beq_refl]
    rfl
  have ew : xl_w aC (xn_up ρ h.length H.size) σ (h ++ [.inl (t, a0)]) = xl_w aC ρ σ h ++ [(H.size, .inl (aC t, a0))] := by
    rw [xl_w_snoc, f1, eq]
    show _ ++ [(H.size, Sum.inl (aC t, a0.1, xl_a _ _ a0.2))] = _
    rw [hv]
  have ek : ∀ i, i < Nn → xn_up ρ h.length H.size i = ρ i := by
    intro i hi
    unfold xn_up
    rw [beqF (by omega)]
    rfl
  have q1 : va_P D vwCl (xl_w aC ρ σ h ++ [(H.size, .inl (aC t, a0))]) H1 := by
    refine (g2.kept hk).app (fun k x hx => ?_)
    match k, hx with
    | 0, hx =>
      cases hx
      exact e1.trans (congrArg some (ha (aC t)).symm)
    | k + 1, hx => cases hx
  have q2 : va_D A (xl_w aC ρ σ h ++ [(H.size, .inl (aC t, a0))]) := g3.push g2 rfl (g6 _ g4.1)
  have q3 : va_S A s.heap H1 locs := ⟨Nat.le_trans g4.1 (by omega), fun x h1 h2 => (o1 x (Nat.lt_of_lt_of_le h1 g4.1)).trans (g4.2.1 x h1 h2), g4.2.2⟩
  have g := k p l e R s m args below meth c D aC (xn_up ρ h.length H.size) σ aV A H1 locs (cells + 1) (slots + N) ls Q hX ⟨g1, by rw [ew]; exact q1, by rw [ew]; exact q2, q3, g5, g6⟩ (f3 _ _ hL) (by omega) (by omega)
    (fun ρ' v h' H' locs' pc' cells' slots' ls' a1 a2 a3 a4 a5 a6 => hr ρ' v h' H' locs' pc' cells' slots' ls' (fun i hi => (a1 i hi).trans (ek i hi)) a2 a3 a4 (by omega) (by omega))
    (fun ρ' h' H' locs' pc' cells' slots' ls' a1 a2 a3 a4 a5 a6 a7 => ht ρ' h' H' locs' pc' cells' slots' ls' (fun i hi => (a1 i hi).trans (ek i hi)) a2 a3 a4 (by omega) (by omega) a7) hZ
  have fin : (Value.ref h.length :: st).map (xl_v (xn_up ρ h.length H.size) σ) = .ref H.size :: st.map (xl_v ρ σ) := by
    rw [List.map_cons]
    show Value.ref (xn_up ρ h.length H.size h.length) :: _ = _
    rw [eq]
    exact congrArg _ (List.cons.inj (congrArg (List.cons Value.null) ((hf ρ σ H.size).2.1))).2
  rw [fin] at g
  exact g
end
-- 80.xp
section
/-! ===== a reference into a field ===== -/
theorem xn_putr {S : XS} {Nn : Nat} {M : XI} {rc rs pc pc2 : Nat} {L : List (Option Value)} {st : List Value} {h : XH} {Po : Option (Option Value) → XH → Prop} {ci k r b : Nat} {fs : List Value} {ty : FieldType} (d : xl_P M pc ci k ty pc2) (hy : ∀ a, narrow ty (.ref a) = .ref a ∧ fits ty (.ref a) = true) (hb : r ≤ b) (hh : xl_n h r = some (.inr (ci, fs))) (hf : k < fs.length) (kk : xn_W S Nn M rc rs pc2 L st (xl_s h r (.inr (ci, xl_s fs k (.ref (b - r))))) Po) : xn_W S Nn M rc rs pc L (.ref b :: .ref r :: st) h Po := by
  obtain ⟨i, d, rfl, C, T, N, ty0, e1, e2, e3, e4, e5, e6, e7, e8⟩ := d
  intro p l e R s m args below meth c D aC ρ σ aV A H locs cells slots ls Q hX hH hL h1 h2 hr ht hZ
  obtain ⟨hK, hP, hD, hS, hE, hA⟩ := id hH
  rw [xl_n_eq] at hh
  refine va_put hX.1 hX.2.1 hX.2.2.2.2.2.1 e3 ty0 e5 e6 hX.2.2.2.2.1 hK hP hD hS r (xl_w_of hh) e1 k e2 (hX.2.2.2.2.2.1 _ e4) (fun _ h9 => h9) e7 e8 (v := .ref (ρ b)) (hy _).1 (hy _).2 (by rw [List.length_map]; exact hf) d (fun H1 locs1 hP1 hD1 hS1 => ?_)
  have ew : (xl_w aC ρ σ h).set r (ρ r, Sum.inr (ci, (fs.map (xl_v (fun d => ρ (r + d)) σ)).set k (.ref (ρ b)))) = xl_w aC ρ σ (xl_s h r (.inr (ci, xl_s fs k (.ref (b - r))))) := by
    rw [xl_s_eq, xl_s_eq, ← xl_w_set]
    show _ = (xl_w aC ρ σ h).set r (ρ r, Sum.inr (ci, (fs.set k (.ref (b - r))).map (xl_v (fun d => ρ (r + d)) σ)))
    rw [List.map_set]
    have e0 : xl_v (fun d => ρ (r + d)) σ (.ref (b - r)) = .ref (ρ b) := by
      show Value.ref (ρ (r + (b - r))) = .ref (ρ b)
      rw [Nat.add_sub_cancel' hb]
    rw [e0]
  rw [ew] at hP1 hD1
  exact kk p l e R s m args below meth c D aC ρ σ aV A H1 locs1 cells slots ls Q hX ⟨hK, hP1, hD1, hS1, hE, hA⟩ hL h1 h2 hr ht hZ
/-- a final field, in a constructor -/
def xn_Fp (M : XI) (pc ci k : Nat) (ty : FieldType) (pc2 : Nat) : Prop := ∃ (i : Nat) (C : String) (T : u_T) (N : Nat) (ty0 : Nat → FieldType), decode M.2.1 pc = .ok (.putfield i, 3) ∧ pc + 3 = pc2 ∧ vwCl[ci]? = some (C, T, N) ∧ k < N ∧ (∀ w ∈ u_ws C T N, w ∈ xl_T) ∧ Cond.fieldLink M.1.cls i (T k).1 (T k).2.1 (T k).2.2.1 ∈ xl_T ∧ (∀ k, k < N → parseFieldDescriptor (T k).2.2.1 = some (ty0 k)) ∧ (∀ a, a < N → ∀ b, b < N → a ≠ b → (T a).2.1 ≠ (T b).2.1) ∧ (T k).2.2.2 = true ∧ parseFieldDescriptor (T k).2.2.1 = some ty ∧ M.1.name = "<init>" ∧ (T k).1 = M.1.cls
theorem xn_putf {S : XS} {Nn : Nat} {M : XI} {rc rs pc pc2 : Nat} {L : List (Option Value)} {st : List Value} {h : XH} {Po : Option (Option Value) → XH → Prop} {ci k r b : Nat} {fs : List Value} {ty : FieldType} (d : xn_Fp M pc ci k ty pc2) (hy : ∀ a, narrow ty (.ref a) = .ref a ∧ fits ty (.ref a) = true) (hb : r ≤ b) (hh : xl_n h r = some (.inr (ci, fs))) (hf : k < fs.length) (kk : xn_W S Nn M rc rs pc2 L st (xl_s h r (.inr (ci, xl_s fs k (.ref (b - r))))) Po) : xn_W S Nn M rc rs pc L (.ref b :: .ref r :: st) h Po := by
  obtain ⟨i, C, T, N, ty0, d, rfl, e1, e2, e3, e4, e5, e6, e7, e8, e9, e10⟩ := d
  intro p l e R s m args below meth c D aC ρ σ aV A H locs cells slots ls Q hX hH hL h1 h2 hr ht hZ
  obtain ⟨hK, hP, hD, hS, hE, hA⟩ := id hH
  rw [xl_n_eq] at hh
  refine va_putF hX.1 hX.2.1 hX.2.2.2.2.2.1 e3 ty0 e5 e6 hX.2.2.2.2.1 hK hP hD hS r (xl_w_of hh) e1 k e2 (hX.2.2.2.2.2.1 _ e4) (fun _ h9 => h9) e7 ((hZ.2.1 e9).trans e9) e10 e8 (v := .ref (ρ b)) (hy _).1 (hy _).2 (by rw [List.length_map]; exact hf) d (fun H1 locs1 hP1 hD1 hS1 => ?_)
  have ew : (xl_w aC ρ σ h).set r (ρ r, Sum.inr (ci, (fs.map (xl_v (fun d => ρ (r + d)) σ)).set k (.ref (ρ b)))) = xl_w aC ρ σ (xl_s h r (.inr (ci, xl_s fs k (.ref (b - r))))) := by
    rw [xl_s_eq, xl_s_eq, ← xl_w_set]
    show _ = (xl_w aC ρ σ h).set r (ρ r, Sum.inr (ci, (fs.set k (.ref (b - r))).map (xl_v (fun d => ρ (r + d)) σ)))
    rw [List.map_set]
    have e0 : xl_v (fun d => ρ (r + d)) σ (.ref (b - r)) = .ref (ρ b) := by
      show Value.ref (ρ (r + (b - r))) = .ref (ρ b)
      rw [Nat.add_sub_cancel' hb]
    rw [e0]
  rw [ew] at hP1 hD1
  exact kk p l e R s m args below meth c D aC ρ σ aV A H1 locs1 cells slots ls Q hX ⟨hK, hP1, hD1, hS1, hE, hA⟩ hL h1 h2 hr ht hZ
end
-- 81.xq
section
/-! ===== calls in a method that makes cells ===== -/
section XNC
variable {S : XS} {Nn : Nat}
variable {p : Program} {l : Launch} {e : Env} {R : Room} {s : State} {m : MethodId} {args : Array Value} {below : List Frame} {meth : Method} {c : Code} {H : Heap} {locs : List Loc} {cells slots : Nat} {Q : State → Prop}
variable {M μ : XI} {rc rs pc pc2 mc ms : Nat} {L : List (Option Value)} {st rest : List Value} {h hl : XH} {Po : Option (Option Value) → XH → Prop} {Po' : Option Value → XH → Prop}
theorem xn_callV (π : Nat → Nat) {ci r : Nat} {fs : List Value} {As As' : List Value} (d : xl_Ca M pc μ pc2) (hv : xl_V μ) (hcl : ∃ T N, vwCl[ci]? = some (μ.1.cls, T, N)) (hh : xl_n h r = some (.inr (ci, fs))) (hst : st = As.reverse ++ .ref r :: rest) (hn : As.length = μ.2.2.2.2.2.2) (hw : (rest.map fun v => if xl_1 v = true then 1 else 2).sum ≤ 8) (hAs : ∀ ρ σ : Nat → Nat, (Value.ref r :: As).map (xl_v ρ σ) = As'.map (xl_v (fun k => ρ (π k)) σ))
    (hp : xl_pi π h hl) (hok : ∀ j c, hl[j]? = some c → xl_ok π j c) (hc : xl_C μ mc ms As' hl Po') (hlen : ∀ v h', Po' v h' → h'.length = hl.length ∧ (∀ j c, h'[j]? = some c → xl_ok π j c) ∧ ∀ a, v ≠ some (.ref a))
    (kk : ∀ v h' h1, Po' v h' → xl_back π hl.length h h' h1 → xn_W S Nn M rc rs pc2 L (v.toList ++ rest) h1 Po) : xn_W S Nn M (rc + mc) (rs + ms) pc L st h Po := by
  obtain ⟨i, d, rfl, d3, d4, d5⟩ := d
  obtain ⟨T, N, hcl⟩ := hcl
  subst hst
  intro p l e R s m args below meth c D aC ρ σ aV A H locs cells slots ls Q hX hH hL h1 h2 hr ht hZ
  obtain ⟨hK, hP, hD, hS, hE, hA⟩ := id hH
  obtain ⟨g1, g2, g3⟩ := xl_part hH hp hok
  rw [xl_n_eq] at hh
  have hrecv := va_recv hK hP hcl (xl_w_of hh)
  have hcw : CallW R s args M.1.cls μ.1.cls i μ.1 μ.2.1 μ.2.2.1 μ.2.2.2.1 (xl_ws μ) (xl_rm μ mc ms) mc ms μ.2.2.2.2.2.2 := ⟨xl_callB hX.2.2.2.2.2.1 hv.1 d3 (Nat.le_trans d4 hX.2.2.2.2.2.2.2.1) (Nat.le_trans d5 hX.2.2.2.2.2.2.2.2.1), hX.2.2.2.2.2.1 _ hv.2.1, hX.2.2.2.2.2.1 _ hv.2.2⟩
  have hcat : ∀ l : List Value, (l.map (xl_v ρ σ)).map (fun v => v.category) = l.map fun v => if xl_1 v = true then 1 else 2 := by
    intro l
    rw [List.map_map]
    apply List.map_congr_left
    intro v _
    show (xl_v ρ σ v).category = _
    by_cases hv1 : xl_1 v = true
    · rw [if_pos hv1, xl_1c hv1]
    · rw [if_neg hv1, xl_1d hv1]
  have hrun := va_runV (As := As.map (xl_v ρ σ)) (rest := rest.map (xl_v ρ σ)) (g := F0 m pc ls ((As.reverse ++ .ref r :: rest).map (xl_v ρ σ))) (H := H) (locs := locs) (cells := cells) (slots := slots) (e := e) (below := below) (meth := meth) (b := ρ r) (C := μ.1.cls) ⟨hX.1, hX.2.1, hX.2.2.2.1, hX.2.2.2.2.1, hX.2.2.2.2.2.1⟩ (hc l hX.2.2.2.2.2.2.2.2.2 D aC (fun k => ρ (π k)) σ aV H.size) hcw
    ⟨xl_blind, hrecv, fun U hU hW => xl_ready hH hp hok hU hW (hAs ρ σ)⟩ rfl (by rw [List.length_map]; exact hn) hL.1 (by simp [xl_v]) (lv_room (by rw [hcat]; exact hw)) d ⟨by omega, by omega⟩
  refine xl_after hrun hS (fun q _ hq => g3 q hq) g3 (fun v h' H1 locs1 hPo hP1 hD1 hz1 hk1 hS1 => ?_)
  obtain ⟨q1, q2, q3⟩ := hlen v h' hPo
  have hback : ∃ h1, xl_back π hl.length h h' h1 := by
    refine ⟨h.mapIdx (fun k c => if hx : ∃ j, j < hl.length ∧ π j = k then (h'[hx.choose]?).getD c else c), by simp, fun j hj => ?_, fun k hk => ?_⟩
    · have hx : ∃ j', j' < hl.length ∧ π j' = π j := ⟨j, hj, rfl⟩
      have hcj : hx.choose = j := hp.1 _ _ hx.choose_spec.1 hj hx.choose_spec.2
      obtain ⟨g4, g5⟩ := hp.2 j hj
      rw [List.getElem?_mapIdx, List.getElem?_eq_getElem g5]
      simp only [Option.map_some]
      rw [dif_pos hx, hcj, List.getElem?_eq_getElem (by omega)]
      rfl
    · rw [List.getElem?_mapIdx]
      cases hhk : h[k]? with
      | none => rfl
      | some c =>
        simp only [Option.map_some]
        rw [dif_neg (fun ⟨j, hj, ej⟩ => hk j hj ej)]
  obtain ⟨h1', hb⟩ := hback
  have hH1 := xl_joined hH hp hb q1 q2 hP1 hk1 hS1
  have := kk v h' h1' hPo hb p l e R s m args below meth c D aC ρ σ aV A H1 locs1 (cells + mc) (slots + ms) ls Q hX hH1 hL (by omega) (by omega) (fun ρ' v h' H' locs' pc' cells' slots' ls' a0 a1 a2 a3 a4 a5 => hr ρ' v h' H' locs' pc' cells' slots' ls' a0 a1 a2 a3 (by omega) (by omega)) (fun ρ' h' H' locs' pc' cells' slots' ls' a0 a1 a2 a3 a4 a5 a6 => ht ρ' h' H' locs' pc' cells' slots' ls' a0 a1 a2 a3 (by omega) (by omega) a6) hZ
  rw [List.map_append] at this
  have ev : (v.map (xl_v (fun k => ρ (π k)) σ)).toList = v.toList.map (xl_v ρ σ) := by
    cases v with
    | none => rfl
    | some v => cases v <;> first | rfl | exact absurd rfl (q3 _)
  rw [ev]
  exact this
theorem xn_callS (π : Nat → Nat) {As As' : List Value} (d : xl_Cs M pc μ pc2) (hv : xl_U μ) (hst : st = As.reverse ++ rest) (hn : As.length = μ.2.2.2.2.2.2) (hw : (rest.map fun v => if xl_1 v = true then 1 else 2).sum ≤ 8) (hAs : ∀ ρ σ : Nat → Nat, As.map (xl_v ρ σ) = As'.map (xl_v (fun k => ρ (π k)) σ))
    (hp : xl_pi π h hl) (hok : ∀ j c, hl[j]? = some c → xl_ok π j c) (hc : xl_C μ mc ms As' hl Po') (hlen : ∀ v h', Po' v h' → h'.length = hl.length ∧ (∀ j c, h'[j]? = some c → xl_ok π j c) ∧ ∀ a, v ≠ some (.ref a))
    (kk : ∀ v h' h1, Po' v h' → xl_back π hl.length h h' h1 → xn_W S Nn M rc rs pc2 L (v.toList ++ rest) h1 Po) : xn_W S Nn M (rc + mc) (rs + ms) pc L st h Po := by
  obtain ⟨i, d, rfl, d3, d4, d5⟩ := d
  subst hst
  intro p l e R s m args below meth c D aC ρ σ aV A H locs cells slots ls Q hX hH hL h1 h2 hr ht hZ
  obtain ⟨hK, hP, hD, hS, hE, hA⟩ := id hH
  obtain ⟨g1, g2, g3⟩ := xl_part hH hp hok
  have hcw : CallB R s args M.1.cls i μ.1 μ.2.1 μ.2.2.1 μ.2.2.2.1 (xl_ws μ) (xl_rm μ mc ms) mc ms μ.2.2.2.2.2.2 ∧ (Cond.static μ.1).before args s = true := ⟨xl_callB hX.2.2.2.2.2.1 hv.1 d3 (Nat.le_trans d4 hX.2.2.2.2.2.2.2.1) (Nat.le_trans d5 hX.2.2.2.2.2.2.2.2.1), hX.2.2.2.2.2.1 _ hv.2⟩
  have hcat : ∀ l : List Value, (l.map (xl_v ρ σ)).map (fun v => v.category) = l.map fun v => if xl_1 v = true then 1 else 2 := by
    intro l
    rw [List.map_map]
    apply List.map_congr_left
    intro v _
    show (xl_v ρ σ v).category = _
    by_cases hv1 : xl_1 v = true
    · rw [if_pos hv1, xl_1c hv1]
    · rw [if_neg hv1, xl_1d hv1]
  have hrun := va_runS (As := As.map (xl_v ρ σ)) (rest := rest.map (xl_v ρ σ)) (g := F0 m pc ls ((As.reverse ++ rest).map (xl_v ρ σ))) (H := H) (locs := locs) (cells := cells) (slots := slots) (e := e) (below := below) (meth := meth) ⟨hX.1, hX.2.1, hX.2.2.2.1, hX.2.2.2.2.1, hX.2.2.2.2.2.1⟩ (hc l hX.2.2.2.2.2.2.2.2.2 D aC (fun k => ρ (π k)) σ aV H.size) hcw
    ⟨xl_blind, fun U hU hW => xl_ready hH hp hok hU hW (hAs ρ σ)⟩ rfl (by rw [List.length_map]; exact hn) hL.1 (by simp [xl_v]) (lv_room (by rw [hcat]; exact hw)) d ⟨by omega, by omega⟩
  refine xl_after hrun hS (fun q _ hq => g3 q hq) g3 (fun v h' H1 locs1 hPo hP1 hD1 hz1 hk1 hS1 => ?_)
  obtain ⟨q1, q2, q3⟩ := hlen v h' hPo
  have hback : ∃ h1, xl_back π hl.length h h' h1 := by
    refine ⟨h.mapIdx (fun k c => if hx : ∃ j, j < hl.length ∧ π j = k then (h'[hx.choose]?).getD c else c), by simp, fun j hj => ?_, fun k hk => ?_⟩
    · have hx : ∃ j', j' < hl.length ∧ π j' = π j := ⟨j, hj, rfl⟩
      have hcj : hx.choose = j := hp.1 _ _ hx.choose_spec.1 hj hx.choose_spec.2
      obtain ⟨g4, g5⟩ := hp.2 j hj
      rw [List.getElem?_mapIdx, List.getElem?_eq_getElem g5]
      simp only [Option.map_some]
      rw [dif_pos hx, hcj, List.getElem?_eq_getElem (by omega)]
      rfl
    · rw [List.getElem?_mapIdx]
      cases hhk : h[k]? with
      | none => rfl
      | some c =>
        simp only [Option.map_some]
        rw [dif_neg (fun ⟨j, hj, ej⟩ => hk j hj ej)]
  obtain ⟨h1', hb⟩ := hback
  have hH1 := xl_joined hH hp hb q1 q2 hP1 hk1 hS1
  have := kk v h' h1' hPo hb p l e R s m args below meth c D aC ρ σ aV A H1 locs1 (cells + mc) (slots + ms) ls Q hX hH1 hL (by omega) (by omega) (fun ρ' v h' H' locs' pc' cells' slots' ls' a0 a1 a2 a3 a4 a5 => hr ρ' v h' H' locs' pc' cells' slots' ls' a0 a1 a2 a3 (by omega) (by omega)) (fun ρ' h' H' locs' pc' cells' slots' ls' a0 a1 a2 a3 a4 a5 a6 => ht ρ' h' H' locs' pc' cells' slots' ls' a0 a1 a2 a3 (by omega) (by omega) a6) hZ
  rw [List.map_append] at this
  have ev : (v.map (xl_v (fun k => ρ (π k)) σ)).toList = v.toList.map (xl_v ρ σ) := by
    cases v with
    | none => rfl
    | some v => cases v <;> first | rfl | exact absurd rfl (q3 _)
  rw [ev]
  exact this
theorem xn_max {a b : Int32} (d : xl_Cm M pc Lib.Math.max.name Lib.Math.max.code pc2) (hw : (rest.map fun v => if xl_1 v = true then 1 else 2).sum ≤ 8) (kk : xn_W S Nn M rc rs pc2 L (.int (if a < b then b else a) :: rest) h Po) : xn_W S Nn M rc rs pc L (.int b :: .int a :: rest) h Po := by
  obtain ⟨i, d, rfl, d3, d4, d5, d6, d7, d8⟩ := d
  intro p l e R s m args below meth c D aC ρ σ aV A H locs cells slots ls Q hX hH hL h1 h2 hr ht hZ
  have hT := hX.2.2.2.2.2.1
  exact va_mmax hX.1 hX.2.1 (hX.2.2.2.1.trans hL.1.symm) hX.2.2.2.2.1 (hT _ d3) (hT _ d4) (hT _ d5) (hT _ d6) (Nat.le_trans d7 hX.2.2.2.2.2.2.2.1) (by rw [xl_cats]; have := hX.2.2.2.2.2.2.2.2.1; omega) (by omega) (by omega) d (kk p l e R s m args below meth c D aC ρ σ aV A H locs cells slots ls Q hX hH hL h1 h2 hr ht hZ)
theorem xn_min {a b : Int32} (d : xl_Cm M pc Lib.Math.min.name Lib.Math.min.code pc2) (hw : (rest.map fun v => if xl_1 v = true then 1 else 2).sum ≤ 8) (kk : xn_W S Nn M rc rs pc2 L (.int (if b < a then b else a) :: rest) h Po) : xn_W S Nn M rc rs pc L (.int b :: .int a :: rest) h Po := by
  obtain ⟨i, d, rfl, d3, d4, d5, d6, d7, d8⟩ := d
  intro p l e R s m args below meth c D aC ρ σ aV A H locs cells slots ls Q hX hH hL h1 h2 hr ht hZ
  have hT := hX.2.2.2.2.2.1
  exact va_mmin hX.1 hX.2.1 (hX.2.2.2.1.trans hL.1.symm) hX.2.2.2.2.1 (hT _ d3) (hT _ d4) (hT _ d5) (hT _ d6) (Nat.le_trans d7 hX.2.2.2.2.2.2.2.1) (by rw [xl_cats]; have := hX.2.2.2.2.2.2.2.2.1; omega) (by omega) (by omega) d (kk p l e R s m args below meth c D aC ρ σ aV A H locs cells slots ls Q hX hH hL h1 h2 hr ht hZ)
end XNC
end
-- 82.xr
section
/-! ===== nothing points behind the cells: by looking ===== -/
def xn_vb (n : Nat) : Value → Bool := fun v => match v with
  | .ref k => bif Nat.beq k n then false else true
  | _ => true
theorem xn_vb_ok {n q : Nat} {ρ σ : Nat → Nat} {v : Value} (h : xn_vb n v = true) : xl_v (xn_up ρ n q) σ v = xl_v ρ σ v := by
  cases v with
  | ref k =>
    show Value.ref (bif Nat.beq k n then q else ρ k) = .ref (ρ k)
    have e : Nat.beq k n = false := by
      cases e : Nat.beq k n with
      | false => rfl
      | true =>
        have h : (bif Nat.beq k n then false else true) = true := h
        rw [e] at h
        cases h
    rw [e]
    rfl
  | _ => rfl
theorem xn_fr_of {n : Nat} {L : List (Option Value)} {st : List Value} {h : XH} (hs : ∀ v ∈ st, xn_vb n v = true) (hL : ∀ i v, xl_n L i = some (some v) → xn_vb n v = true) (hh : ∀ (aC : Nat → ClassId) (ρ σ : Nat → Nat) (q : Nat), xl_w aC (xn_up ρ n q) σ h = xl_w aC ρ σ h) : xn_fr n L st h :=
  fun ρ σ q => ⟨fun aC => hh aC ρ σ q, List.map_congr_left (fun v hv => xn_vb_ok (hs v hv)), fun N ls hl => ⟨hl.1, hl.2.1, fun i v e => by rw [xn_vb_ok (hL i v e)]; exact hl.2.2 i v e⟩⟩
end
-- 83.xs
section
/-! ===== the contract of a constructor ===== -/
def xn_Pc (D : va_G) (aC : Nat → ClassId) (ρ σ aV : Nat → Nat) (sz : Nat) (As : List Value) (h : XH) : Array Value → State → Prop :=
  va_Pc (As.map (xl_v ρ σ)) (fun U => (U.heap.size = sz ∧ va_P D vwCl (xl_w aC ρ σ h) U.heap ∧ va_K D vwCl (xl_ty aC) U ∧ va_D (fun _ => True) (xl_w aC ρ σ h) ∧ xl_S σ aV (va_A (xl_w aC ρ σ h) sz) U U.heap) ∧ xn_A aC U)
def xn_Qc (n : Nat) (D : va_G) (aC : Nat → ClassId) (ρ σ : Nat → Nat) (A : Nat → Prop) (Po : XH → Prop) : Array Value → State → Outcome → State → Prop := fun _ st oc t =>
  (∃ (ρ' : Nat → Nat) (h' : XH), oc = .returned none ∧ (∀ i, i < n → ρ' i = ρ i) ∧ Po h' ∧ va_P D vwCl (xl_w aC ρ' σ h') t.heap ∧ va_K D vwCl (xl_ty aC) t ∧ va_D A (xl_w aC ρ' σ h')) ∧ va_F A st t
def xn_C (μ : XI) (mc ms : Nat) (As : List Value) (h : XH) (Po : XH → Prop) : Prop :=
  ∀ (l : Launch), l.flags = flags0 → ∀ (D : va_G) (aC : Nat → ClassId) (ρ σ aV : Nat → Nat) (sz : Nat), Met l μ.1 (xl_ws μ) (xl_rm μ mc ms) (xn_Pc D aC ρ σ aV sz As h) (xn_Qc h.length D aC ρ σ (va_A (xl_w aC ρ σ h) sz) Po) mc ms (va_A (xl_w aC ρ σ h) sz)
theorem xn_con {μ : XI} {mc ms : Nat} {As : List Value} {h : XH} {Po : XH → Prop} (hk : xl_K μ) (L0 : List (Option Value)) (he : xl_e As μ.2.2.1 = L0) (hz : xl_z As ≤ μ.2.2.1) (hW : xn_W none h.length μ mc ms 0 L0 [] h (fun v h' => v = some none ∧ Po h')) : xn_C μ mc ms As h Po := by
  intro l hl D aC ρ σ aV sz
  refine Met.ofW (cc := μ.2.1) (maxL := μ.2.2.1) (ret := μ.2.2.2.1) hk.1 rfl ?_
  intro p e s m args below meth c s₁ B hml hv
  obtain ⟨rfl, ⟨hsz, hP, hK, hD0, hE⟩, hZ⟩ := hv
  have hts := atoms_spec (ws := xl_ws μ) B.pre
  have hown : s.vm.findClass μ.1.cls = some m.cls := findClass_of_methodNamed B.named
  have hlocks := B.notSynchronized
  have hin : meth.name = μ.1.name := (name_of_methodNamed B.named B.method).1
  subst hsz
  have hD := hD0.self (sz := s.heap.size)
  generalize hAe : va_A (xl_w aC ρ σ h) s.heap.size = A at hD hE ⊢
  have hA : ∀ q : Nat, s.heap.size ≤ q → A q := fun q h => by rw [← hAe]; exact Or.inr h
  have hS : va_S A s.heap s.heap [] := va_S.rf
  have hl0 := lv_entry (As.map (xl_v ρ σ)) (n := μ.2.2.1) (by rw [xl_z_eq]; exact hz)
  rw [lg_entry_eq]
  refine hW p l e _ s m _ below meth c D aC ρ σ aV A s.heap [] 0 0 _ _ ⟨B.exec, B.bytes, B.returns, hml, hown, fun w hw => hts w (List.mem_cons_of_mem _ hw), hlocks, Nat.le_refl _, Nat.le_refl _, hl⟩ ⟨hK, hP, hD, hS, hE, hA⟩ ⟨hl0.1, hl0.2.1, fun i v hi => ?_⟩ (by show 0 + mc ≤ mc; omega) (by show 0 + ms ≤ ms; omega) ?_ ?_ ⟨hZ, fun _ => hin, trivial⟩
  · rw [← he] at hi
    have := xl_e_in (ρ := ρ) (σ := σ) As μ.2.2.1 0 i v hi
    rw [Nat.zero_add] at this
    exact hl0.2.2 _ this
  · intro ρ' v h' H' locs' pc' cells' slots' ls' ha hPo hH' hR hc1 hc2
    obtain ⟨ew, hPo⟩ := hPo
    cases ew
    obtain ⟨hK', hP', hD', hS', hE', hA'⟩ := hH'
    refine W.widen (k := mc) (n := ms) (by omega) (by omega) ?_
    exact W.vret B.exec B.bytes (B.returns.trans hR.1) (fun t ht hW => ⟨⟨ρ', h', rfl, ha, hPo, by rw [ht]; exact hP', va_K.moved hW.alike hK', hD'⟩, hS'.F ht⟩) hS'.2.2 hR.2 hlocks
  · intro ρ' h' H' locs' pc' cells' slots' ls' ha hPo
    cases hPo.1
end
-- 84.xt
section
/-! ===== what cells, stack and locals point at: places below n alone ===== -/
def xn_ca (n k : Nat) : ((Nat → Int32) ⊕ (Nat → Int64) ⊕ (Nat → UInt32) ⊕ (Nat → UInt64) ⊕ (Nat → Option Nat)) → Prop := fun a => match a with
  | .inl _ => True
  | .inr (.inl _) => True
  | .inr (.inr (.inl _)) => True
  | .inr (.inr (.inr (.inl _))) => True
  | .inr (.inr (.inr (.inr f))) => ∀ j d, f j = some d → k + d < n
def xn_vl (n k : Nat) : Value → Bool := fun v => match v with
  | .ref d => Nat.blt (k + d) n
  | _ => true
def xn_ce (n k : Nat) : XE → Prop := fun c => match c with
  | .inl a => xn_ca n k a.2.2
  | .inr o => o.2.all (xn_vl n k) = true
def xn_cl (n : Nat) : Nat → XH → Prop
  | _, [] => True
  | k, c :: t => xn_ce n k c ∧ xn_cl n (k + 1) t
def xn_ol (n : Nat) : Option Value → Bool := fun o => match o with
  | some v => xn_vl n 0 v
  | none => true
def xn_ok (n : Nat) (L : List (Option Value)) (st : List Value) (h : XH) : Prop := h.length ≤ n ∧ xn_cl n 0 h ∧ st.all (xn_vl n 0) = true ∧ L.all (xn_ol n) = true
theorem xn_blt {a b : Nat} (h : Nat.blt a b = true) : a < b := Nat.le_of_ble_eq_true h
theorem xn_vl_eq {n k : Nat} {ρ ρ' σ : Nat → Nat} {v : Value} (h : xn_vl n k v = true) (he : ∀ i, i < n → ρ' i = ρ i) : xl_v (fun d => ρ' (k + d)) σ v = xl_v (fun d => ρ (k + d)) σ v := by
  cases v with
  | ref d =>
    show Value.ref (ρ' (k + d)) = .ref (ρ (k + d))
    rw [he _ (xn_blt h)]
  | _ => rfl
theorem xn_v0_eq {n : Nat} {ρ ρ' σ : Nat → Nat} {v : Value} (h : xn_vl n 0 v = true) (he : ∀ i, i < n → ρ' i = ρ i) : xl_v ρ' σ v = xl_v ρ σ v := by
  cases v with
  | ref d =>
    show Value.ref (ρ' d) = .ref (ρ d)
    have := xn_blt h
    rw [he _ (by omega)]
  | _ => rfl
theorem xn_ce_eq {n k : Nat} {aC : Nat → ClassId} {ρ ρ' σ : Nat → Nat} {c : XE} (h : xn_ce n k c) (he : ∀ i, i < n → ρ' i = ρ i) : xl_c aC ρ' σ k c = xl_c aC ρ σ k c := by
  rcases c with ⟨t, m, f | f | f | f | f⟩ | ⟨ci, fs⟩
  · rfl
  · rfl
  · rfl
  · rfl
  · have h : ∀ j d, f j = some d → k + d < n := h
    have e : (fun j => (f j).map (fun d => ρ' (k + d))) = (fun j => (f j).map (fun d => ρ (k + d))) := by
      funext j
      cases hj : f j with
      | none => rfl
      | some d =>
        show some (ρ' (k + d)) = some (ρ (k + d))
        rw [he _ (h j d hj)]
    show Sum.inl (aC t, m, Sum.inr (Sum.inr (Sum.inr (Sum.inr (fun j => (f j).map (fun d => ρ' (k + d))))))) = _
    rw [e]
    rfl
  · have h : fs.all (xn_vl n k) = true := h
    show Sum.inr (ci, fs.map (xl_v (fun d => ρ' (k + d)) σ)) = Sum.inr (ci, fs.map (xl_v (fun d => ρ (k + d)) σ))
    rw [List.map_congr_left (fun v hv => xn_vl_eq (List.all_eq_true.mp h v hv) he)]
theorem xn_cl_at {n : Nat} : ∀ {h : XH} {b j : Nat} {c : XE}, xn_cl n b h → h[j]? = some c → xn_ce n (b + j) c
  | [], b, j, c, _, e => by simp at e
  | a :: t, b, 0, c, h, e => by
    simp at e
    subst e
    exact h.1
  | a :: t, b, j + 1, c, h, e => by
    have := xn_cl_at (h := t) (b := b + 1) (j := j) h.2 (by simpa using e)
    rw [show b + (j + 1) = b + 1 + j by omega]
    exact this
theorem xn_w_eq {n : Nat} {aC : Nat → ClassId} {ρ ρ' σ : Nat → Nat} {h : XH} (hn : h.length ≤ n) (hc : xn_cl n 0 h) (he : ∀ i, i < n → ρ' i = ρ i) : xl_w aC ρ' σ h = xl_w aC ρ σ h := by
  apply List.ext_getElem?
  intro i
  rw [xl_w_at, xl_w_at]
  cases e : h[i]? with
  | none => rfl
  | some c =>
    have hi := (List.getElem?_eq_some_iff.mp e).1
    have := xn_cl_at hc e
    rw [Nat.zero_add] at this
    show some (ρ' i, xl_c aC ρ' σ i c) = some (ρ i, xl_c aC ρ σ i c)
    rw [he i (by omega), xn_ce_eq this he]
theorem xn_ok_st {n : Nat} {L : List (Option Value)} {st : List Value} {h : XH} {ρ ρ' σ : Nat → Nat} (hk : xn_ok n L st h) (he : ∀ i, i < n → ρ' i = ρ i) : st.map (xl_v ρ' σ) = st.map (xl_v ρ σ) :=
  List.map_congr_left (fun v hv => xn_v0_eq (List.all_eq_true.mp hk.2.2.1 v hv) he)
theorem xn_ok_L {n : Nat} {L : List (Option Value)} {st : List Value} {h : XH} {ρ ρ' σ : Nat → Nat} {N : Nat} {ls : Array Slot} (hk : xn_ok n L st h) (he : ∀ i, i < n → ρ' i = ρ i) (hL : xl_L ρ σ N ls L) : xl_L ρ' σ N ls L :=
  ⟨hL.1, hL.2.1, fun i v e => by
    have e1 : L[i]? = some (some v) := by rw [← xl_n_eq]; exact e
    rw [xn_v0_eq (List.all_eq_true.mp hk.2.2.2 _ (List.mem_of_getElem? e1)) he]
    exact hL.2.2 i v e⟩
theorem xn_up_lt {ρ : Nat → Nat} {n q i : Nat} (h : i < n) : xn_up ρ n q i = ρ i := by
  unfold xn_up
  rw [beqF h]
  rfl
theorem xn_fr_ok {n : Nat} {L : List (Option Value)} {st : List Value} {h : XH} (hk : xn_ok n L st h) : xn_fr n L st h := fun ρ σ q =>
  ⟨fun aC => xn_w_eq hk.1 hk.2.1 (fun _ hi => xn_up_lt hi), xn_ok_st hk (fun _ hi => xn_up_lt hi), fun N ls hL => xn_ok_L hk (fun _ hi => xn_up_lt hi) hL⟩
theorem xn_cl_app {n : Nat} : ∀ {a b : XH} {k : Nat}, xn_cl n k a → xn_cl n (k + a.length) b → xn_cl n k (a ++ b)
  | [], b, k, _, h2 => by simpa using h2
  | c :: t, b, k, h1, h2 => ⟨h1.1, xn_cl_app h1.2 (by rw [show k + 1 + t.length = k + (c :: t).length by simp; omega]; exact h2)⟩
theorem xn_ce_mono {n n' k k' : Nat} {c : XE} (hn : n + k' ≤ n' + k) (h : xn_ce n k c) : xn_ce n' k' c := by
  rcases c with ⟨t, m, f | f | f | f | f⟩ | ⟨ci, fs⟩
  · trivial
  · trivial
  · trivial
  · trivial
  · intro j d e
    have h : ∀ j d, f j = some d → k + d < n := h
    have := h j d e
    omega
  · have h : fs.all (xn_vl n k) = true := h
    show fs.all (xn_vl n' k') = true
    rw [List.all_eq_true] at h ⊢
    intro v hv
    have := h v hv
    cases v with
    | ref d =>
      have := xn_blt this
      show Nat.blt (k' + d) n' = true
      exact Nat.ble_eq_true_of_le (by omega)
    | _ => rfl
theorem xn_cl_mono {n n' : Nat} : ∀ {h : XH} {k k' : Nat}, n + k' ≤ n' + k → xn_cl n k h → xn_cl n' k' h
  | [], _, _, _, _ => trivial
  | c :: t, k, k', hn, h => ⟨xn_ce_mono hn h.1, xn_cl_mono (k := k + 1) (k' := k' + 1) (by omega) h.2⟩
/-! ===== a final int field, an array of references, its elements, Object.<init> ===== -/
section XT
variable {S : XS} {Nn : Nat} {M μ : XI} {rc rs pc pc2 mc ms : Nat} {L : List (Option Value)} {st rest : List Value} {h h0 : XH} {Po : Option (Option Value) → XH → Prop}
theorem xn_putfi {ci k r : Nat} {fs : List Value} {a : Int32} (d : xn_Fp M pc ci k .int pc2) (hh : xl_n h r = some (.inr (ci, fs))) (hf : k < fs.length) (kk : xn_W S Nn M rc rs pc2 L st (xl_s h r (.inr (ci, xl_s fs k (.int a)))) Po) : xn_W S Nn M rc rs pc L (.int a :: .ref r :: st) h Po := by
  obtain ⟨i, C, T, N, ty0, d, rfl, e1, e2, e3, e4, e5, e6, e7, e8, e9, e10⟩ := d
  intro p l e R s m args below meth c D aC ρ σ aV A H locs cells slots ls Q hX hH hL h1 h2 hr ht hZ
  obtain ⟨hK, hP, hD, hS, hE, hA⟩ := id hH
  rw [xl_n_eq] at hh
  refine va_putF hX.1 hX.2.1 hX.2.2.2.2.2.1 e3 ty0 e5 e6 hX.2.2.2.2.1 hK hP hD hS r (xl_w_of hh) e1 k e2 (hX.2.2.2.2.2.1 _ e4) (fun _ h9 => h9) e7 ((hZ.2.1 e9).trans e9) e10 e8 (v := .int a) rfl rfl (by rw [List.length_map]; exact hf) d (fun H1 locs1 hP1 hD1 hS1 => ?_)
  have ew : (xl_w aC ρ σ h).set r (ρ r, Sum.inr (ci, (fs.map (xl_v (fun d => ρ (r + d)) σ)).set k (.int a))) = xl_w aC ρ σ (xl_s h r (.inr (ci, xl_s fs k (.int a)))) := by
    rw [xl_s_eq, xl_s_eq, ← xl_w_set]
    show _ = (xl_w aC ρ σ h).set r (ρ r, Sum.inr (ci, (fs.set k (.int a)).map (xl_v (fun d => ρ (r + d)) σ)))
    rw [List.map_set]
    rfl
  rw [ew] at hP1 hD1
  exact kk p l e R s m args below meth c D aC ρ σ aV A H1 locs1 cells slots ls Q hX ⟨hK, hP1, hD1, hS1, hE, hA⟩ hL h1 h2 hr ht hZ
def xn_Aq (M : XI) (pc pc2 : Nat) : Prop := ∃ i, decode M.2.1 pc = .ok (.anewarray i, 3) ∧ pc + 3 = pc2 ∧ Cond.classLink M.1.cls i RX1 ∈ xl_T
theorem xn_newq {n : Int32} {N : Nat} (d : xn_Aq M pc pc2) (h0 : ¬ n < 0) (hN : n.toNatClampNeg = N) (hB : N * 4 ≤ 536870912) (hn : Nn ≤ h.length) (hk : xn_ok h.length L st h) (k : xn_W S Nn M rc rs pc2 L (.ref h.length :: st) (h ++ [xQ N (fun _ => none)]) Po) : xn_W S Nn M (rc + 1) (rs + N) pc L (.int n :: st) h Po := by
  intro p l e R s m args below meth c D aC ρ σ aV A H locs cells slots ls Q hX hH hL h1 h2 hr ht hZ
  obtain ⟨i, d1, rfl, d2⟩ := d
  obtain ⟨g1, g2, g3, g4, g5, g6⟩ := hH
  refine va_newq hX.1 hX.2.1 hX.2.2.2.2.1 (hX.2.2.2.2.2.1 _ d2) hZ.1.2 g1 g2 g3 g4 g6 h0 hN hB (by omega) (by omega) d1 (fun q cA H1 q0 q1 q2 q3 => ?_)
  have ec : cA = aC 3 := by
    have := (q0.2 4 (cA, .object RX1) rfl).2
    obtain ⟨_, _, _, _, _, f4⟩ := this
    exact Option.some.inj (f4.symm.trans (hZ.1.1 3 (aC 3, .object RX1) rfl))
  subst ec
  have eq : xn_up ρ h.length q h.length = q := by
    unfold xn_up
    rw [Nat.beq_refl]
    rfl
  have ew : xl_w aC (xn_up ρ h.length q) σ (h ++ [xQ N (fun _ => none)]) = xl_w aC ρ σ h ++ [(q, .inl (aC 3, N, .inr (.inr (.inr (.inr (fun _ => none))))))] := by
    rw [xl_w_snoc, xn_w_eq hk.1 hk.2.1 (fun _ hi => xn_up_lt hi), eq]
    rfl
  have g := k p l e R s m args below meth c D aC (xn_up ρ h.length q) σ aV A H1 locs (cells + 1) (slots + N) ls Q hX ⟨g1, by rw [ew]; exact q1, by rw [ew]; exact q2, q3, g5, g6⟩ (xn_ok_L hk (fun _ hi => xn_up_lt hi) hL) (by omega) (by omega)
    (fun ρ' v h' H' locs' pc' cells' slots' ls' a1 a2 a3 a4 a5 a6 => hr ρ' v h' H' locs' pc' cells' slots' ls' (fun i hi => (a1 i hi).trans (xn_up_lt (by omega))) a2 a3 a4 (by omega) (by omega))
    (fun ρ' h' H' locs' pc' cells' slots' ls' a1 a2 a3 a4 a5 a6 a7 => ht ρ' h' H' locs' pc' cells' slots' ls' (fun i hi => (a1 i hi).trans (xn_up_lt (by omega))) a2 a3 a4 (by omega) (by omega) a7) hZ
  rw [List.map_cons, xn_ok_st hk (fun _ hi => xn_up_lt hi)] at g
  have e0 : xl_v (xn_up ρ h.length q) σ (.ref h.length) = .ref q := by
    show Value.ref (xn_up ρ h.length q h.length) = .ref q
    rw [eq]
  rw [e0] at g
  exact g
theorem xn_aast {r b n : Nat} {f : Nat → Option Nat} {fs : List Value} {i : Int32} (d : xl_D M pc .aastore 1 pc2) (hh : xl_n h r = some (xQ n f)) (hb : r ≤ b) (hv : xl_n h b = some (.inr (1, fs))) (hin : vp_in i n) (kk : xn_W S Nn M rc rs pc2 L st (xl_s h r (xQ n (va_up f i.toNatClampNeg (some (b - r))))) Po) : xn_W S Nn M rc rs pc L (.ref b :: .int i :: .ref r :: st) h Po := by
  obtain ⟨d, rfl⟩ := d
  intro p l e R s m args below meth c D aC ρ σ aV A H locs cells slots ls Q hX hH hL h1 h2 hr ht hZ
  obtain ⟨hK, hP, hD, hS, hE, hA⟩ := id hH
  rw [xl_n_eq] at hh hv
  refine va_astq hX.1 hX.2.1 hK hP hD hS r 3 b 1 (r := (RX1, TX1, 16)) (xl_w_of hh) rfl (xl_w_of hv) rfl hin d (fun H1 locs1 hP1 hD1 hS1 => ?_)
  have ew : (xl_w aC ρ σ h).set r (ρ r, Sum.inl (aC 3, n, Sum.inr (Sum.inr (Sum.inr (Sum.inr (va_up (fun j => (f j).map (fun d => ρ (r + d))) i.toNatClampNeg (some (ρ b)))))))) = xl_w aC ρ σ (xl_s h r (xQ n (va_up f i.toNatClampNeg (some (b - r))))) := by
    rw [xl_s_eq, ← xl_w_set]
    have e0 : va_up (fun j => (f j).map (fun d => ρ (r + d))) i.toNatClampNeg (some (ρ b)) = fun j => (va_up f i.toNatClampNeg (some (b - r)) j).map (fun d => ρ (r + d)) := by
      funext j
      unfold va_up
      by_cases hj : j = i.toNatClampNeg
      · rw [if_pos hj, if_pos hj]
        show some (ρ b) = some (ρ (r + (b - r)))
        rw [Nat.add_sub_cancel' hb]
      · rw [if_neg hj, if_neg hj]
    rw [e0]
    rfl
  exact kk p l e R s m args below meth c D aC ρ σ aV A H1 locs1 cells slots ls Q hX ⟨hK, by rw [← ew]; exact hP1, by rw [← ew]; exact hD1, hS1, hE, hA⟩ hL h1 h2 hr ht hZ
def xn_Oi (M : XI) (pc pc2 : Nat) : Prop := ∃ i, decode M.2.1 pc = .ok (.invokespecial i, 3) ∧ pc + 3 = pc2 ∧ Cond.methodLink M.1.cls i Lib.objectInit ∈ xl_T ∧ Cond.instanceMethod Lib.objectInit ∈ xl_T ∧ Cond.code Lib.objectInit ⟨#[0xb1]⟩ 1 none ∈ xl_T ∧ 1 ≤ M.2.2.2.2.1 ∧ 12 ≤ M.2.2.2.2.2.1
theorem xn_obj {r : Nat} (d : xn_Oi M pc pc2) (kk : xn_W S Nn M rc rs pc2 L [] h Po) : xn_W S Nn M rc rs pc L [.ref r] h Po := by
  obtain ⟨i, d, rfl, d3, d4, d5, d6, d7⟩ := d
  intro p l e R s m args below meth c D aC ρ σ aV A H locs cells slots ls Q hX hH hL h1 h2 hr ht hZ
  have hT := hX.2.2.2.2.2.1
  exact W.objInit hX.1 hX.2.1 hX.2.2.2.2.1 (hT _ d3) (hT _ d4) (hT _ d5) (g := F0 m pc ls [.ref (ρ r)]) rfl (hL.1.trans hX.2.2.2.1.symm) (a := ρ r) (rest := []) rfl d (Nat.le_trans d6 hX.2.2.2.2.2.2.2.1) (by show 2 * 0 + 0 + 12 ≤ R.locals; have := hX.2.2.2.2.2.2.2.2.1; omega) (kk p l e R s m args below meth c D aC ρ σ aV A H locs cells slots ls Q hX hH hL h1 h2 hr ht hZ)
end XT
end
-- 85.xu
section
/-! ===== the call of a constructor; places named anew ===== -/
theorem xl_w_app (aC : Nat → ClassId) (ρ σ : Nat → Nat) (a b : XH) : xl_w aC ρ σ (a ++ b) = xl_w aC ρ σ a ++ xl_w aC (fun k => ρ (a.length + k)) σ b := by
  apply List.ext_getElem?
  intro i
  by_cases hi : i < a.length
  · rw [xl_w_at, List.getElem?_append_left hi, List.getElem?_append_left (by simp [xl_w]; exact hi), xl_w_at]
  · have hl : (xl_w aC ρ σ a).length = a.length := by simp [xl_w]
    rw [xl_w_at, List.getElem?_append_right (by omega), List.getElem?_append_right (by rw [hl]; omega), hl, xl_w_at]
    cases e : b[i - a.length]? with
    | none => rfl
    | some c =>
      show some (ρ i, xl_c aC ρ σ i c) = some (ρ (a.length + (i - a.length)), xl_c aC (fun k => ρ (a.length + k)) σ (i - a.length) c)
      rw [xl_ok_add a.length (i - a.length) c aC ρ σ]
      show some (ρ i, xl_c aC ρ σ i c) = some (ρ (a.length + (i - a.length)), xl_c aC ρ σ (a.length + (i - a.length)) c)
      rw [show a.length + (i - a.length) = i by omega]
section XU
variable {p : Program} {l : Launch} {e : Env} {R : Room} {s : State} {m : MethodId} {args : Array Value} {below : List Frame} {meth : Method} {c : Code} {H : Heap} {locs : List Loc} {cells slots : Nat} {Q : State → Prop}
theorem xn_after {pc mc ms n : Nat} {ls : Array Slot} {rest st0 : List Value} {a : Array Value} {A0 A1 free : Nat → Prop} {D : va_G} {aC : Nat → ClassId} {ρ σ : Nat → Nat} {Po : XH → Prop}
    (hr : va_Run p l e R s m args below meth c H locs cells slots mc ms (F0 m pc ls st0) rest (xn_Qc n D aC ρ σ A1 Po a) free) (hS : va_S A0 s.heap H locs) (hA : ∀ q, q < H.size → A1 q → A0 q) (hf : ∀ q, free q → A0 q)
    (kk : ∀ (ρ' : Nat → Nat) (h' : XH) (H1 : Heap) (locs1 : List Loc), (∀ i, i < n → ρ' i = ρ i) → Po h' → va_P D vwCl (xl_w aC ρ' σ h') H1 → va_D A1 (xl_w aC ρ' σ h') → H.size ≤ H1.size → (∀ q : Nat, q < H.size → ¬ A1 q → H1[q]? = H[q]?) → va_S A0 s.heap H1 locs1 → W p l e R s m args below meth c H1 locs1 (cells + mc) (slots + ms) Q (F0 m (pc + 3) ls rest)) : W p l e R s m args below meth c H locs cells slots Q (F0 m pc ls st0) := by
  intro T hT X
  obtain ⟨v, st₀, t, T', L, h0, X', hL, e1, e2, ⟨⟨ρ', h', hv, hi, hp, hP1, hK1, hD1⟩, hz, hk⟩, st⟩ := hr T hT X
  cases hv
  rw [h0] at hz hk
  obtain ⟨t2, a1, b1⟩ := kk ρ' h' T'.heap (locs ++ L) hi hp (by rw [e1]; exact hP1) hD1 (by rw [e1]; exact hz) (fun q h1 h2 => by rw [e1]; exact hk q h1 h2)
    ⟨Nat.le_trans hS.1 (by rw [e1]; exact hz), fun q h1 h2 => by rw [e1, hk q (Nat.lt_of_lt_of_le h1 hS.1) (fun z => h2 (hA q (Nat.lt_of_lt_of_le h1 hS.1) z))]; exact hS.2.1 q h1 h2, fun q hq => by
      rcases List.mem_append.mp hq with h | h
      · exact hS.2.2 q h
      · exact hf _ (hL q h)⟩ T' rfl X'
  exact ⟨t2, st t2 a1, b1⟩
end XU
section XV
variable {S : XS} {Nn : Nat} {M μ : XI} {rc rs pc pc2 mc ms : Nat} {L : List (Option Value)} {st rest : List Value} {h h0 : XH} {Po : Option (Option Value) → XH → Prop}
theorem xn_blind {hl : XH} {D : va_G} {aC : Nat → ClassId} {ρ σ aV : Nat → Nat} {sz : Nat} {As : List Value} : FrameBlind (xn_Pc D aC ρ σ aV sz As hl) := fun a U g mk q => by
  obtain ⟨q0, ⟨q1, qP, qK, qD, qE⟩, q2⟩ := q
  exact ⟨q0, ⟨q1, qP, va_K.moved (u := U) (U := U.calling g mk a) (Vm.Alike.refl U.vm) qK, qD, xl_S.same (u := U) (U := U.calling g mk a) rfl qE⟩, q2.1, va_AO.moved (u := U) (U := U.calling g mk a) (Vm.Alike.refl U.vm) q2.2⟩
def xn_Ci (M : XI) (pc : Nat) (μ : XI) (pc2 : Nat) : Prop := ∃ i, decode M.2.1 pc = .ok (.invokespecial i, 3) ∧ pc + 3 = pc2 ∧ Cond.methodLink M.1.cls i μ.1 ∈ xl_T ∧ μ.2.2.2.2.1 + 1 ≤ M.2.2.2.2.1 ∧ 8 + (μ.2.2.1 + 11) + μ.2.2.2.2.2.1 ≤ M.2.2.2.2.2.1
/-- what the tables say of a constructor -/
def xn_K (μ : XI) : Prop := xl_K μ ∧ μ.1.name = "<init>" ∧ μ.2.2.2.1 = none ∧ Cond.instanceMethod μ.1 ∈ xl_T
def xn_nr : Value → Bool := fun v => match v with
  | .ref _ => false
  | _ => true
theorem xn_nr_m {As : List Value} (h : As.all xn_nr = true) (ρ ρ' σ : Nat → Nat) : As.map (xl_v ρ σ) = As.map (xl_v ρ' σ) :=
  List.map_congr_left (fun v hv => by
    have := List.all_eq_true.mp h v hv
    cases v <;> first | rfl | cases this)
theorem xn_callI {cell : XE} {As : List Value} {Po' : XH → Prop} (d : xn_Ci M pc μ pc2) (hv : xn_K μ) (hst : st = As.reverse ++ .ref h0.length :: rest) (hn : As.length = μ.2.2.2.2.2.2) (hnr : As.all xn_nr = true) (hw : (rest.map fun v => if xl_1 v = true then 1 else 2).sum ≤ 8) (hk : xn_ok (h0.length + 1) L rest h0) (hN : Nn ≤ h0.length + 1) (hc : xn_C μ mc ms (.ref 0 :: As) [cell] Po')
    (kk : ∀ h', Po' h' → xn_W S Nn M rc rs pc2 L rest (h0 ++ h') Po) : xn_W S Nn M (rc + mc) (rs + ms) pc L st (h0 ++ [cell]) Po := by
  obtain ⟨i, d, rfl, d3, d4, d5⟩ := d
  obtain ⟨hk0, hv1, hv2, hv3⟩ := hv
  subst hst
  intro p l e R s m args below meth c D aC ρ σ aV A H locs cells slots ls Q hX hH hL h1 h2 hr ht hZ
  obtain ⟨hK, hP, hD, hS, hE, hA⟩ := id hH
  have hp : xl_pi (fun k => h0.length + k) (h0 ++ [cell]) [cell] := xl_pi_add (by simp)
  have hok : ∀ j c, [cell][j]? = some c → xl_ok (fun k => h0.length + k) j c := fun j c _ => xl_ok_add _ j c
  obtain ⟨g1, g2, g3⟩ := xl_part hH hp hok
  have hb := xl_callB (M := M) (mc := mc) (ms := ms) hX.2.2.2.2.2.1 hk0 d3 (Nat.le_trans d4 hX.2.2.2.2.2.2.2.1) (Nat.le_trans d5 hX.2.2.2.2.2.2.2.2.1)
  rw [hv2] at hb
  have hAs : (Value.ref h0.length :: As).map (xl_v ρ σ) = (Value.ref 0 :: As).map (xl_v (fun k => ρ (h0.length + k)) σ) := by
    rw [List.map_cons, List.map_cons, xn_nr_m hnr ρ (fun k => ρ (h0.length + k)) σ]
    rfl
  have hrun := va_runI (As := As.map (xl_v ρ σ)) (rest := rest.map (xl_v ρ σ)) (g := F0 m pc ls ((As.reverse ++ .ref h0.length :: rest).map (xl_v ρ σ))) (H := H) (locs := locs) (cells := cells) (slots := slots) (e := e) (below := below) (meth := meth) (b := ρ h0.length) ⟨hX.1, hX.2.1, hX.2.2.2.1, hX.2.2.2.2.1, hX.2.2.2.2.2.1⟩ (hc l hX.2.2.2.2.2.2.2.2.2 D aC (fun k => ρ (h0.length + k)) σ aV H.size) ⟨hb, hv1, hX.2.2.2.2.2.1 _ hv3⟩
    ⟨xn_blind, fun U hU hW => by
      have q := xl_ready (As := .ref 0 :: As) hH hp hok hU hW hAs
      exact ⟨q.1, q.2, fun k x hx => by rw [hW.alike.findClass]; exact hZ.1.1 k x hx, va_AO.moved hW.alike hZ.1.2⟩⟩ rfl (by rw [List.length_map]; exact hn) hL.1 (by simp [xl_v]) (lv_room (by rw [xl_cats]; exact hw)) d ⟨by omega, by omega⟩
  refine xn_after hrun hS (fun q _ hq => g3 q hq) g3 (fun ρ1 h' H1 locs1 hi hPo hP1 hD1 hz1 hk1 hS1 => ?_)
  have hi0 : ρ1 0 = ρ h0.length := hi 0 (by simp)
  obtain ⟨ρ2, hρ2⟩ : ∃ ρ2 : Nat → Nat, ρ2 = fun i => if i < h0.length then ρ i else ρ1 (i - h0.length) := ⟨_, rfl⟩
  have he : ∀ i, i < h0.length + 1 → ρ2 i = ρ i := by
    intro i hi
    rw [hρ2]
    show (if i < h0.length then ρ i else ρ1 (i - h0.length)) = ρ i
    by_cases h9 : i < h0.length
    · rw [if_pos h9]
    · have e9 : i = h0.length := by omega
      rw [if_neg h9, e9, Nat.sub_self, hi0]
  have he2 : (fun k => ρ2 (h0.length + k)) = ρ1 := by
    funext k
    rw [hρ2]
    show (if h0.length + k < h0.length then ρ (h0.length + k) else ρ1 (h0.length + k - h0.length)) = ρ1 k
    rw [if_neg (by omega), Nat.add_sub_cancel_left]
  have ew : xl_w aC ρ2 σ (h0 ++ h') = xl_w aC ρ σ h0 ++ xl_w aC ρ1 σ h' := by
    rw [xl_w_app, he2, xn_w_eq (by omega) hk.2.1 he]
  have eold : xl_w aC ρ σ (h0 ++ [cell]) = xl_w aC ρ σ h0 ++ xl_w aC (fun k => ρ (h0.length + k)) σ [cell] := xl_w_app _ _ _ _ _
  have hlen0 : (xl_w aC ρ σ h0).length = h0.length := by simp [xl_w]
  have hin : ∀ (k : Nat) (q : Nat × va_E), (xl_w aC ρ σ h0)[k]? = some q → (xl_w aC ρ σ (h0 ++ [cell]))[k]? = some q := by
    intro k q hq
    rw [eold, List.getElem?_append_left (List.getElem?_eq_some_iff.mp hq).1]
    exact hq
  have hap : ∀ (k : Nat) (q : Nat × va_E), (xl_w aC ρ σ h0)[k]? = some q → ¬ va_A (xl_w aC (fun k => ρ (h0.length + k)) σ [cell]) H.size q.1 := by
    intro k q hq hz
    have hkl := (List.getElem?_eq_some_iff.mp hq).1
    rcases hz with ⟨j, e9, hj⟩ | hz
    · have hjl := (List.getElem?_eq_some_iff.mp hj).1
      have hj0 : (xl_w aC ρ σ (h0 ++ [cell]))[h0.length + j]? = some (q.1, e9) := by
        rw [eold, List.getElem?_append_right (by omega), hlen0, Nat.add_sub_cancel_left]
        exact hj
      have := hD.1 _ _ _ _ (hin k q hq) hj0 rfl
      omega
    · exact absurd (hP k q (hin k q hq)).lt (Nat.not_lt.mpr hz)
  have hP2 : va_P D vwCl (xl_w aC ρ2 σ (h0 ++ h')) H1 := by
    rw [ew]
    exact va_P.app (fun k q hq => (hP k q (hin k q hq)).kept (hk1 _ (hP k q (hin k q hq)).lt (hap k q hq))) hP1
  have hD2 : va_D A (xl_w aC ρ2 σ (h0 ++ h')) := by
    rw [ew]
    refine va_D.app ⟨fun i j x y hx hy => hD.1 i j x y (hin i x hx) (hin j y hy), fun k q hq => hD.2 k q (hin k q hq)⟩ (hD1.weaken (fun k q _ h => g3 q.1 h)) (fun i j x y hx hy hxy => ?_)
    exact hap i x hx (by rw [hxy]; exact hD1.2 j y hy)
  have g := kk h' hPo p l e R s m args below meth c D aC ρ2 σ aV A H1 locs1 (cells + mc) (slots + ms) ls Q hX ⟨hK, hP2, hD2, hS1, hE, hA⟩ (xn_ok_L hk he hL) (by omega) (by omega)
    (fun ρ' v h' H' locs' pc' cells' slots' ls' a0 a1 a2 a3 a4 a5 => hr ρ' v h' H' locs' pc' cells' slots' ls' (fun i hi => (a0 i hi).trans (he i (by omega))) a1 a2 a3 (by omega) (by omega)) (fun ρ' h' H' locs' pc' cells' slots' ls' a0 a1 a2 a3 a4 a5 a6 => ht ρ' h' H' locs' pc' cells' slots' ls' (fun i hi => (a0 i hi).trans (he i (by omega))) a1 a2 a3 (by omega) (by omega) a6) hZ
  rw [xn_ok_st hk he] at g
  exact g
/-- what two cells say is the same -/
def xn_sm (π : Nat → Nat) (j : Nat) (c : XE) (k : Nat) (c' : XE) : Prop := ∀ (D : va_G) (aC : Nat → ClassId) (ρ σ : Nat → Nat) (a : Nat) (H : Heap), va_at D vwCl (a, xl_c aC ρ σ k c') H → va_at D vwCl (a, xl_c aC (fun k => ρ (π k)) σ j c) H
theorem xn_sm_ok {π : Nat → Nat} {j : Nat} {c : XE} (h : xl_ok π j c) : xn_sm π j c (π j) c := fun D aC ρ σ a H q => by rw [h aC ρ σ]; exact q
theorem arrV_same {cA : ClassId} {n : Nat} {f g : Nat → Value} (h : ∀ j, j < n → f j = g j) : arrV cA n f = arrV cA n g := by
  unfold arrV
  congr 1
  apply Array.ext
  · simp
  · intro i h1 h2
    simp at h1
    simp [h i h1]
theorem xn_sm_q {π : Nat → Nat} {j k n : Nat} {f g : Nat → Option Nat} (h : ∀ i, i < n → ∃ a b, f i = some a ∧ g i = some b ∧ π (j + a) = k + b) : xn_sm π j (xQ n f) k (xQ n g) := by
  intro D aC ρ σ a H q
  show H[a]? = some (arrV (aC 3) n (fun i => va_rf ((f i).map (fun d => ρ (π (j + d))))))
  have q : H[a]? = some (arrV (aC 3) n (fun i => va_rf ((g i).map (fun d => ρ (k + d))))) := q
  rw [q]
  refine congrArg some (arrV_same (fun i hi => ?_))
  obtain ⟨x, y, e1, e2, e3⟩ := h i hi
  rw [e1, e2]
  show Value.ref (ρ (k + y)) = .ref (ρ (π (j + x)))
  rw [e3]
theorem xn_perm (π : Nat → Nat) {hl : XH} (hi : ∀ i j, i < hl.length → j < hl.length → π i = π j → i = j) (hp : ∀ j c, hl[j]? = some c → ∃ c', h[π j]? = some c' ∧ xn_sm π j c (π j) c') (hN : ∀ i, i < Nn → π i = i) (k : xn_W S Nn M rc rs pc [] [] hl Po) : xn_W S Nn M rc rs pc L [] h Po := by
  intro p l e R s m args below meth c D aC ρ σ aV A H locs cells slots ls Q hX hH hL h1 h2 hr ht hZ
  obtain ⟨hK, hP, hD, hS, hE, hA⟩ := id hH
  have hap := xl_ap_of hD
  have hlt : ∀ i, i < hl.length → π i < h.length := fun i hi => by
    obtain ⟨c', e1, -⟩ := hp i _ (List.getElem?_eq_getElem hi)
    exact (List.getElem?_eq_some_iff.mp e1).1
  refine k p l e R s m args below meth c D aC (fun k => ρ (π k)) σ aV A H locs cells slots ls Q hX ⟨hK, fun j q hq => ?_, xl_D_of ⟨fun i j a b e => hi i j a b (hap.1 _ _ (hlt i a) (hlt j b) e), fun i a => hap.2 _ (hlt i a)⟩, hS, hE, hA⟩ ⟨hL.1, hL.2.1, fun i v e => by simp [xl_n] at e⟩ h1 h2
    (fun ρ' v h' H' locs' pc' cells' slots' ls' a0 => hr ρ' v h' H' locs' pc' cells' slots' ls' (fun i hi => (a0 i hi).trans (by show ρ (π i) = ρ i; rw [hN i hi]))) (fun ρ' h' H' locs' pc' cells' slots' ls' a0 => ht ρ' h' H' locs' pc' cells' slots' ls' (fun i hi => (a0 i hi).trans (by show ρ (π i) = ρ i; rw [hN i hi]))) hZ
  obtain ⟨c9, e1, rfl⟩ := xl_w_inv hq
  obtain ⟨c', e2, e3⟩ := hp j c9 e1
  exact e3 D aC ρ σ _ H (hP (π j) _ (xl_w_of e2))
/-- the same, with locals -/
theorem xn_permL (π : Nat → Nat) {hl : XH} {L' : List (Option Value)} (hi : ∀ i j, i < hl.length → j < hl.length → π i = π j → i = j) (hp : ∀ j c, hl[j]? = some c → ∃ c', h[π j]? = some c' ∧ xn_sm π j c (π j) c') (hN : ∀ i, i < Nn → π i = i) (hL0 : ∀ (ρ σ : Nat → Nat) (i : Nat) (v : Value), xl_n L' i = some (some v) → ∃ w, xl_n L i = some (some w) ∧ xl_v (fun k => ρ (π k)) σ v = xl_v ρ σ w) (k : xn_W S Nn M rc rs pc L' [] hl Po) : xn_W S Nn M rc rs pc L [] h Po := by
  intro p l e R s m args below meth c D aC ρ σ aV A H locs cells slots ls Q hX hH hL h1 h2 hr ht hZ
  obtain ⟨hK, hP, hD, hS, hE, hA⟩ := id hH
  have hap := xl_ap_of hD
  have hlt : ∀ i, i < hl.length → π i < h.length := fun i hi => by
    obtain ⟨c', e1, -⟩ := hp i _ (List.getElem?_eq_getElem hi)
    exact (List.getElem?_eq_some_iff.mp e1).1
  refine k p l e R s m args below meth c D aC (fun k => ρ (π k)) σ aV A H locs cells slots ls Q hX ⟨hK, fun j q hq => ?_, xl_D_of ⟨fun i j a b e => hi i j a b (hap.1 _ _ (hlt i a) (hlt j b) e), fun i a => hap.2 _ (hlt i a)⟩, hS, hE, hA⟩ ⟨hL.1, hL.2.1, fun i v e => ?_⟩ h1 h2
    (fun ρ' v h' H' locs' pc' cells' slots' ls' a0 => hr ρ' v h' H' locs' pc' cells' slots' ls' (fun i hi => (a0 i hi).trans (by show ρ (π i) = ρ i; rw [hN i hi]))) (fun ρ' h' H' locs' pc' cells' slots' ls' a0 => ht ρ' h' H' locs' pc' cells' slots' ls' (fun i hi => (a0 i hi).trans (by show ρ (π i) = ρ i; rw [hN i hi]))) hZ
  · obtain ⟨c9, e1, rfl⟩ := xl_w_inv hq
    obtain ⟨c', e2, e3⟩ := hp j c9 e1
    exact e3 D aC ρ σ _ H (hP (π j) _ (xl_w_of e2))
  · obtain ⟨w, e1, e2⟩ := hL0 ρ σ i v e
    rw [e2]
    exact hL.2.2 i w e1
end XV
end
-- 86.cf
section
/-! ===== facts of the constructors, by program ===== -/
theorem oi_m : Cond.instanceMethod Lib.objectInit ∈ xl_T := (wc_t1 22 rfl rfl)
theorem oi_c : Cond.code Lib.objectInit ⟨#[0xb1]⟩ 1 none ∈ xl_T := (wc_t1 23 rfl rfl)
theorem ac_i : Cond.arrayClass .int ∈ xl_T := (wc_t1 54 rfl rfl)
theorem ac_l : Cond.arrayClass .long ∈ xl_T := (wc_t1 181 rfl rfl)
theorem ac_z : Cond.arrayClass .boolean ∈ xl_T := (wc_t4 158 rfl rfl)
def dfX0 : List Value := [xi 0, xi 0, .null, xi 0]
theorem inX0 : Cond.instantiable RX0 4 ∈ xl_T := (wc_t1 31 rfl rfl)
theorem dfX0_ok : ∀ j, j < 4 → defaultValue (tyX0 j) = vp_V dfX0 j := fun j hj => match j, hj with
  | 0, _ => congrArg Value.int iI_0.symm
  | 1, _ => congrArg Value.int iI_0.symm
  | 2, _ => rfl
  | 3, _ => congrArg Value.int iI_0.symm
  | k + 4, h => absurd h (by omega)
theorem nkX0_init : xn_K mX0_init := ⟨kX0_init, rfl, rfl, (wc_t1 33 rfl rfl)⟩
def dfX1 : List Value := [xi 0, xi 0, xi 0, xi 0, xi 0, xi 0, xi 0, xi 0, xi 0, xi 0, .null, .null, .null, .null, .null, .null]
theorem inX1 : Cond.instantiable RX1 16 ∈ xl_T := (wc_t1 25 rfl rfl)
theorem dfX1_ok : ∀ j, j < 16 → defaultValue (tyX1 j) = vp_V dfX1 j := fun j hj => match j, hj with
  | 0, _ => congrArg Value.int iI_0.symm
  | 1, _ => congrArg Value.int iI_0.symm
  | 2, _ => congrArg Value.int iI_0.symm
  | 3, _ => congrArg Value.int iI_0.symm
  | 4, _ => congrArg Value.int iI_0.symm
  | 5, _ => congrArg Value.int iI_0.symm
  | 6, _ => congrArg Value.int iI_0.symm
  | 7, _ => congrArg Value.int iI_0.symm
  | 8, _ => congrArg Value.int iI_0.symm
  | 9, _ => congrArg Value.int iI_0.symm
  | 10, _ => rfl
  | 11, _ => rfl
  | 12, _ => rfl
  | 13, _ => rfl
  | 14, _ => rfl
  | 15, _ => rfl
  | k + 16, h => absurd h (by omega)
theorem nkX1_init : xn_K mX1_init := ⟨kX1_init, rfl, rfl, (wc_t1 27 rfl rfl)⟩
def dfX2 : List Value := [.null, .null, .null, xi 0, xi 0, .null, xi 0, .null, xi 0, .null, xi 0, .null, .null]
theorem inX2 : Cond.instantiable RX2 13 ∈ xl_T := (wc_t1 17 rfl rfl)
theorem dfX2_ok : ∀ j, j < 13 → defaultValue (tyX2 j) = vp_V dfX2 j := fun j hj => match j, hj with
  | 0, _ => rfl
  | 1, _ => rfl
  | 2, _ => rfl
  | 3, _ => congrArg Value.int iI_0.symm
  | 4, _ => congrArg Value.int iI_0.symm
  | 5, _ => rfl
  | 6, _ => congrArg Value.int iI_0.symm
  | 7, _ => rfl
  | 8, _ => congrArg Value.int iI_0.symm
  | 9, _ => rfl
  | 10, _ => congrArg Value.int iI_0.symm
  | 11, _ => rfl
  | 12, _ => rfl
  | k + 13, h => absurd h (by omega)
theorem nkX2_init : xn_K mX2_init := ⟨kX2_init, rfl, rfl, (wc_t1 19 rfl rfl)⟩
def dfX3 : List Value := [xi 0, xi 0, .null, .null, xi 0, xi 0, xi 0, .null, xi 0, .null, xi 0, xi 0, xi 0, .null, .null, .null, .null, .null, .null, xi 0, .null, xi 0, .null]
theorem inX3 : Cond.instantiable RX3 23 ∈ xl_T := (wc_t4 75 rfl rfl)
theorem dfX3_ok : ∀ j, j < 23 → defaultValue (tyX3 j) = vp_V dfX3 j := fun j hj => match j, hj with
  | 0, _ => congrArg Value.int iI_0.symm
  | 1, _ => congrArg Value.int iI_0.symm
  | 2, _ => rfl
  | 3, _ => rfl
  | 4, _ => congrArg Value.int iI_0.symm
  | 5, _ => congrArg Value.int iI_0.symm
  | 6, _ => congrArg Value.int iI_0.symm
  | 7, _ => rfl
  | 8, _ => congrArg Value.int iI_0.symm
  | 9, _ => rfl
  | 10, _ => congrArg Value.int iI_0.symm
  | 11, _ => congrArg Value.int iI_0.symm
  | 12, _ => congrArg Value.int iI_0.symm
  | 13, _ => rfl
  | 14, _ => rfl
  | 15, _ => rfl
  | 16, _ => rfl
  | 17, _ => rfl
  | 18, _ => rfl
  | 19, _ => congrArg Value.int iI_0.symm
  | 20, _ => rfl
  | 21, _ => congrArg Value.int iI_0.symm
  | 22, _ => rfl
  | k + 23, h => absurd h (by omega)
theorem nkX3_init : xn_K mX3_init := ⟨kX3_init, rfl, rfl, (wc_t4 77 rfl rfl)⟩
theorem oX0_init_1 : xn_Oi mX0_init 1 4 := ⟨1, by decide +kernel, rfl, (wc_t1 35 rfl rfl), oi_m, oi_c, Nat.le_of_ble_eq_true rfl, Nat.le_of_ble_eq_true rfl⟩
theorem pX0_init_10 : xn_Fp mX0_init 10 0 0 .int 13 := ⟨13, RX0, TX0, 4, tyX0, by decide +kernel, rfl, rfl, by decide, xl_inX0, (wc_t1 39 rfl rfl), tyX0_ok, nmX0, rfl, by decide +kernel, rfl, rfl⟩
theorem pX0_init_19 : xn_Fp mX0_init 19 0 1 .int 22 := ⟨19, RX0, TX0, 4, tyX0, by decide +kernel, rfl, rfl, by decide, xl_inX0, (wc_t1 40 rfl rfl), tyX0_ok, nmX0, rfl, by decide +kernel, rfl, rfl⟩
theorem pX0_init_34 : xn_Fp mX0_init 34 0 2 (.array .int) 37 := ⟨22, RX0, TX0, 4, tyX0, by decide +kernel, rfl, rfl, by decide, xl_inX0, (wc_t1 41 rfl rfl), tyX0_ok, nmX0, rfl, by decide +kernel, rfl, rfl⟩
theorem oX1_init_1 : xn_Oi mX1_init 1 4 := ⟨3, by decide +kernel, rfl, (wc_t1 29 rfl rfl), oi_m, oi_c, Nat.le_of_ble_eq_true rfl, Nat.le_of_ble_eq_true rfl⟩
theorem nX1_init_5 : xn_Nw mX1_init 5 0 dfX0 4 8 := ⟨9, RX0, TX0, tyX0, by decide +kernel, rfl, rfl, xl_inX0, (wc_t1 30 rfl rfl), inX0, xl_iX0, tyX0_ok, dfX0_ok⟩
theorem sX1_init_11 : xn_Ci mX1_init 11 mX0_init 14 := ⟨11, by decide +kernel, rfl, (wc_t1 32 rfl rfl), Nat.le_of_ble_eq_true rfl, Nat.le_of_ble_eq_true rfl⟩
theorem pX1_init_14 : xn_Fp mX1_init 14 1 10 (.object "LateSessions$Table") 17 := ⟨14, RX1, TX1, 16, tyX1, by decide +kernel, rfl, rfl, by decide, xl_inX1, (wc_t1 95 rfl rfl), tyX1_ok, nmX1, rfl, by decide +kernel, rfl, rfl⟩
theorem nX1_init_18 : xn_Nw mX1_init 18 0 dfX0 4 21 := ⟨9, RX0, TX0, tyX0, by decide +kernel, rfl, rfl, xl_inX0, (wc_t1 30 rfl rfl), inX0, xl_iX0, tyX0_ok, dfX0_ok⟩
theorem sX1_init_27 : xn_Ci mX1_init 27 mX0_init 30 := ⟨11, by decide +kernel, rfl, (wc_t1 32 rfl rfl), Nat.le_of_ble_eq_true rfl, Nat.le_of_ble_eq_true rfl⟩
theorem pX1_init_30 : xn_Fp mX1_init 30 1 11 (.object "LateSessions$Table") 33 := ⟨20, RX1, TX1, 16, tyX1, by decide +kernel, rfl, rfl, by decide, xl_inX1, (wc_t1 97 rfl rfl), tyX1_ok, nmX1, rfl, by decide +kernel, rfl, rfl⟩
theorem nX1_init_34 : xn_Nw mX1_init 34 0 dfX0 4 37 := ⟨9, RX0, TX0, tyX0, by decide +kernel, rfl, rfl, xl_inX0, (wc_t1 30 rfl rfl), inX0, xl_iX0, tyX0_ok, dfX0_ok⟩
theorem sX1_init_42 : xn_Ci mX1_init 42 mX0_init 45 := ⟨11, by decide +kernel, rfl, (wc_t1 32 rfl rfl), Nat.le_of_ble_eq_true rfl, Nat.le_of_ble_eq_true rfl⟩
theorem pX1_init_45 : xn_Fp mX1_init 45 1 12 (.object "LateSessions$Table") 48 := ⟨23, RX1, TX1, 16, tyX1, by decide +kernel, rfl, rfl, by decide, xl_inX1, (wc_t1 99 rfl rfl), tyX1_ok, nmX1, rfl, by decide +kernel, rfl, rfl⟩
theorem nX1_init_49 : xn_Nw mX1_init 49 0 dfX0 4 52 := ⟨9, RX0, TX0, tyX0, by decide +kernel, rfl, rfl, xl_inX0, (wc_t1 30 rfl rfl), inX0, xl_iX0, tyX0_ok, dfX0_ok⟩
theorem sX1_init_57 : xn_Ci mX1_init 57 mX0_init 60 := ⟨11, by decide +kernel, rfl, (wc_t1 32 rfl rfl), Nat.le_of_ble_eq_true rfl, Nat.le_of_ble_eq_true rfl⟩
theorem pX1_init_60 : xn_Fp mX1_init 60 1 13 (.object "LateSessions$Table") 63 := ⟨26, RX1, TX1, 16, tyX1, by decide +kernel, rfl, rfl, by decide, xl_inX1, (wc_t1 101 rfl rfl), tyX1_ok, nmX1, rfl, by decide +kernel, rfl, rfl⟩
theorem nX1_init_64 : xn_Nw mX1_init 64 0 dfX0 4 67 := ⟨9, RX0, TX0, tyX0, by decide +kernel, rfl, rfl, xl_inX0, (wc_t1 30 rfl rfl), inX0, xl_iX0, tyX0_ok, dfX0_ok⟩
theorem sX1_init_73 : xn_Ci mX1_init 73 mX0_init 76 := ⟨11, by decide +kernel, rfl, (wc_t1 32 rfl rfl), Nat.le_of_ble_eq_true rfl, Nat.le_of_ble_eq_true rfl⟩
theorem pX1_init_76 : xn_Fp mX1_init 76 1 14 (.object "LateSessions$Table") 79 := ⟨29, RX1, TX1, 16, tyX1, by decide +kernel, rfl, rfl, by decide, xl_inX1, (wc_t1 103 rfl rfl), tyX1_ok, nmX1, rfl, by decide +kernel, rfl, rfl⟩
theorem nX1_init_80 : xn_Nw mX1_init 80 0 dfX0 4 83 := ⟨9, RX0, TX0, tyX0, by decide +kernel, rfl, rfl, xl_inX0, (wc_t1 30 rfl rfl), inX0, xl_iX0, tyX0_ok, dfX0_ok⟩
theorem sX1_init_88 : xn_Ci mX1_init 88 mX0_init 91 := ⟨11, by decide +kernel, rfl, (wc_t1 32 rfl rfl), Nat.le_of_ble_eq_true rfl, Nat.le_of_ble_eq_true rfl⟩
theorem pX1_init_91 : xn_Fp mX1_init 91 1 15 (.object "LateSessions$Table") 94 := ⟨32, RX1, TX1, 16, tyX1, by decide +kernel, rfl, rfl, by decide, xl_inX1, (wc_t1 105 rfl rfl), tyX1_ok, nmX1, rfl, by decide +kernel, rfl, rfl⟩
theorem oX2_init_1 : xn_Oi mX2_init 1 4 := ⟨1, by decide +kernel, rfl, (wc_t1 21 rfl rfl), oi_m, oi_c, Nat.le_of_ble_eq_true rfl, Nat.le_of_ble_eq_true rfl⟩
theorem nX2_init_5 : xn_Nw mX2_init 5 1 dfX1 16 8 := ⟨7, RX1, TX1, tyX1, by decide +kernel, rfl, rfl, xl_inX1, (wc_t1 24 rfl rfl), inX1, xl_iX1, tyX1_ok, dfX1_ok⟩
theorem sX2_init_9 : xn_Ci mX2_init 9 mX1_init 12 := ⟨9, by decide +kernel, rfl, (wc_t1 26 rfl rfl), Nat.le_of_ble_eq_true rfl, Nat.le_of_ble_eq_true rfl⟩
theorem pX2_init_12 : xn_Fp mX2_init 12 2 0 (.object "LateSessions$World") 15 := ⟨10, RX2, TX2, 13, tyX2, by decide +kernel, rfl, rfl, by decide, xl_inX2, (wc_t1 141 rfl rfl), tyX2_ok, nmX2, rfl, by decide +kernel, rfl, rfl⟩
theorem nX2_init_16 : xn_Nw mX2_init 16 1 dfX1 16 19 := ⟨7, RX1, TX1, tyX1, by decide +kernel, rfl, rfl, xl_inX1, (wc_t1 24 rfl rfl), inX1, xl_iX1, tyX1_ok, dfX1_ok⟩
theorem sX2_init_20 : xn_Ci mX2_init 20 mX1_init 23 := ⟨9, by decide +kernel, rfl, (wc_t1 26 rfl rfl), Nat.le_of_ble_eq_true rfl, Nat.le_of_ble_eq_true rfl⟩
theorem pX2_init_23 : xn_Fp mX2_init 23 2 1 (.object "LateSessions$World") 26 := ⟨16, RX2, TX2, 13, tyX2, by decide +kernel, rfl, rfl, by decide, xl_inX2, (wc_t1 142 rfl rfl), tyX2_ok, nmX2, rfl, by decide +kernel, rfl, rfl⟩
theorem qX2_init_29 : xn_Aq mX2_init 29 32 := ⟨7, by decide +kernel, rfl, (wc_t1 24 rfl rfl)⟩
theorem pX2_init_32 : xn_Fp mX2_init 32 2 2 (.array (.object "LateSessions$World")) 35 := ⟨19, RX2, TX2, 13, tyX2, by decide +kernel, rfl, rfl, by decide, xl_inX2, (wc_t1 143 rfl rfl), tyX2_ok, nmX2, rfl, by decide +kernel, rfl, rfl⟩
theorem nX2_init_48 : xn_Nw mX2_init 48 1 dfX1 16 51 := ⟨7, RX1, TX1, tyX1, by decide +kernel, rfl, rfl, xl_inX1, (wc_t1 24 rfl rfl), inX1, xl_iX1, tyX1_ok, dfX1_ok⟩
theorem sX2_init_52 : xn_Ci mX2_init 52 mX1_init 55 := ⟨9, by decide +kernel, rfl, (wc_t1 26 rfl rfl), Nat.le_of_ble_eq_true rfl, Nat.le_of_ble_eq_true rfl⟩
theorem qX2_init_64 : xn_Aq mX2_init 64 67 := ⟨7, by decide +kernel, rfl, (wc_t1 24 rfl rfl)⟩
theorem pX2_init_67 : xn_Fp mX2_init 67 2 5 (.array (.object "LateSessions$World")) 70 := ⟨23, RX2, TX2, 13, tyX2, by decide +kernel, rfl, rfl, by decide, xl_inX2, (wc_t1 146 rfl rfl), tyX2_ok, nmX2, rfl, by decide +kernel, rfl, rfl⟩
theorem nX2_init_82 : xn_Nw mX2_init 82 1 dfX1 16 85 := ⟨7, RX1, TX1, tyX1, by decide +kernel, rfl, rfl, xl_inX1, (wc_t1 24 rfl rfl), inX1, xl_iX1, tyX1_ok, dfX1_ok⟩
theorem sX2_init_86 : xn_Ci mX2_init 86 mX1_init 89 := ⟨9, by decide +kernel, rfl, (wc_t1 26 rfl rfl), Nat.le_of_ble_eq_true rfl, Nat.le_of_ble_eq_true rfl⟩
theorem pX2_init_101 : xn_Fp mX2_init 101 2 7 (.array .long) 104 := ⟨26, RX2, TX2, 13, tyX2, by decide +kernel, rfl, rfl, by decide, xl_inX2, (wc_t1 148 rfl rfl), tyX2_ok, nmX2, rfl, by decide +kernel, rfl, rfl⟩
theorem pX2_init_109 : xn_Fp mX2_init 109 2 9 (.array .int) 112 := ⟨30, RX2, TX2, 13, tyX2, by decide +kernel, rfl, rfl, by decide, xl_inX2, (wc_t1 150 rfl rfl), tyX2_ok, nmX2, rfl, by decide +kernel, rfl, rfl⟩
theorem pX2_init_118 : xn_Fp mX2_init 118 2 11 (.array .int) 121 := ⟨34, RX2, TX2, 13, tyX2, by decide +kernel, rfl, rfl, by decide, xl_inX2, (wc_t1 152 rfl rfl), tyX2_ok, nmX2, rfl, by decide +kernel, rfl, rfl⟩
theorem pX2_init_126 : xn_Fp mX2_init 126 2 12 (.array .int) 129 := ⟨37, RX2, TX2, 13, tyX2, by decide +kernel, rfl, rfl, by decide, xl_inX2, (wc_t1 153 rfl rfl), tyX2_ok, nmX2, rfl, by decide +kernel, rfl, rfl⟩
theorem oX3_init_1 : xn_Oi mX3_init 1 4 := ⟨47, by decide +kernel, rfl, (wc_t4 79 rfl rfl), oi_m, oi_c, Nat.le_of_ble_eq_true rfl, Nat.le_of_ble_eq_true rfl⟩
theorem pX3_init_9 : xn_Fp mX3_init 9 3 2 (.array .long) 12 := ⟨7, RX3, TX3, 23, tyX3, by decide +kernel, rfl, rfl, by decide, xl_inX3, (wc_t4 90 rfl rfl), tyX3_ok, nmX3, rfl, by decide +kernel, rfl, rfl⟩
theorem pX3_init_17 : xn_Fp mX3_init 17 3 3 (.array .int) 20 := ⟨17, RX3, TX3, 23, tyX3, by decide +kernel, rfl, rfl, by decide, xl_inX3, (wc_t4 91 rfl rfl), tyX3_ok, nmX3, rfl, by decide +kernel, rfl, rfl⟩
theorem pX3_init_26 : xn_Fp mX3_init 26 3 7 (.array .int) 29 := ⟨53, RX3, TX3, 23, tyX3, by decide +kernel, rfl, rfl, by decide, xl_inX3, (wc_t4 95 rfl rfl), tyX3_ok, nmX3, rfl, by decide +kernel, rfl, rfl⟩
theorem pX3_init_34 : xn_Fp mX3_init 34 3 9 (.array .int) 37 := ⟨56, RX3, TX3, 23, tyX3, by decide +kernel, rfl, rfl, by decide, xl_inX3, (wc_t4 97 rfl rfl), tyX3_ok, nmX3, rfl, by decide +kernel, rfl, rfl⟩
theorem pX3_init_42 : xn_Fp mX3_init 42 3 13 (.array .int) 45 := ⟨59, RX3, TX3, 23, tyX3, by decide +kernel, rfl, rfl, by decide, xl_inX3, (wc_t4 101 rfl rfl), tyX3_ok, nmX3, rfl, by decide +kernel, rfl, rfl⟩
theorem pX3_init_50 : xn_Fp mX3_init 50 3 14 (.array .int) 53 := ⟨62, RX3, TX3, 23, tyX3, by decide +kernel, rfl, rfl, by decide, xl_inX3, (wc_t4 102 rfl rfl), tyX3_ok, nmX3, rfl, by decide +kernel, rfl, rfl⟩
theorem pX3_init_58 : xn_Fp mX3_init 58 3 15 (.array .int) 61 := ⟨65, RX3, TX3, 23, tyX3, by decide +kernel, rfl, rfl, by decide, xl_inX3, (wc_t4 103 rfl rfl), tyX3_ok, nmX3, rfl, by decide +kernel, rfl, rfl⟩
theorem pX3_init_66 : xn_Fp mX3_init 66 3 16 (.array .int) 69 := ⟨68, RX3, TX3, 23, tyX3, by decide +kernel, rfl, rfl, by decide, xl_inX3, (wc_t4 104 rfl rfl), tyX3_ok, nmX3, rfl, by decide +kernel, rfl, rfl⟩
theorem pX3_init_75 : xn_Fp mX3_init 75 3 17 (.array .int) 78 := ⟨71, RX3, TX3, 23, tyX3, by decide +kernel, rfl, rfl, by decide, xl_inX3, (wc_t4 105 rfl rfl), tyX3_ok, nmX3, rfl, by decide +kernel, rfl, rfl⟩
theorem pX3_init_84 : xn_Fp mX3_init 84 3 18 (.array .int) 87 := ⟨74, RX3, TX3, 23, tyX3, by decide +kernel, rfl, rfl, by decide, xl_inX3, (wc_t4 106 rfl rfl), tyX3_ok, nmX3, rfl, by decide +kernel, rfl, rfl⟩
theorem pX3_init_92 : xn_Fp mX3_init 92 3 20 (.array .int) 95 := ⟨77, RX3, TX3, 23, tyX3, by decide +kernel, rfl, rfl, by decide, xl_inX3, (wc_t4 108 rfl rfl), tyX3_ok, nmX3, rfl, by decide +kernel, rfl, rfl⟩
theorem pX3_init_99 : xn_Fp mX3_init 99 3 22 (.array .boolean) 102 := ⟨80, RX3, TX3, 23, tyX3, by decide +kernel, rfl, rfl, by decide, xl_inX3, (wc_t4 110 rfl rfl), tyX3_ok, nmX3, rfl, by decide +kernel, rfl, rfl⟩
end
-- 87.cv
section
/-! ===== a method of a view, at a place, in a method that makes cells ===== -/
section XW
variable {σ : Type} {enc : σ → XH} {bd : σ → Prop} {S : XS} {Nn : Nat} {M μ : XI} {rc rs pc pc2 : Nat} {L : List (Option Value)} {rest : List Value} {Po : Option (Option Value) → XH → Prop}
theorem xn_callR {f : List PV → σ → (PS → σ → Prop) → Prop} {ci : Nat} (P T : XH) {as : List PV} {s : σ} {K : PS → σ → Prop} (d : xl_Ca M pc μ pc2) (hv : xl_V μ) (hm : mOk enc bd μ (atR 0 f)) (hcl : ∃ T N, vwCl[ci]? = some (μ.1.cls, T, N)) (hl : ∀ s s' : σ, (enc s').length = (enc s).length) (hr : ∀ s, ∃ fs, xl_n (enc s) 0 = some (.inr (ci, fs))) (hn : as.length = μ.2.2.2.2.2.2) (hnr : as.all pnr = true) (hw : (rest.map fun v => if xl_1 v = true then 1 else 2).sum ≤ 8) (hb : bd s) (hs : f as s K)
    (kk : ∀ v s', K v s' → bd s' → xn_W S Nn M rc rs pc2 L (v.map pV ++ rest) (P ++ (enc s' ++ T)) Po) : xn_W S Nn M rc rs pc L ((as.map pV).reverse ++ .ref P.length :: rest) (P ++ (enc s ++ T)) Po := by
  obtain ⟨fs, hfs⟩ := hr s
  rw [xl_n_eq] at hfs
  have h0 : 0 < (enc s).length := (List.getElem?_eq_some_iff.mp hfs).1
  have hcut : ((P ++ (enc s ++ T)).drop P.length).take (enc s).length = enc s := by simp
  have hc := hm (pR 0 :: as) s K hb hs
  have hh : xl_n (P ++ (enc s ++ T)) P.length = some (.inr (ci, fs)) := by
    rw [xl_n_eq, List.getElem?_append_right (Nat.le_refl _), Nat.sub_self, List.getElem?_append_left h0]
    exact hfs
  refine xn_callV (mc := 0) (ms := 0) (As := as.map pV) (As' := (pR 0 :: as).map pV) (rest := rest) (fun k => P.length + k) d hv hcl hh rfl (by rw [List.length_map]; exact hn) hw ?_ (xl_pi_add hcut) (fun j c _ => xl_ok_add _ j c) hc ?_ ?_
  · intro ρ σ'
    rw [List.map_cons, List.map_cons, List.map_cons, ← pRel_m (fun k => P.length + k), pnr_rel hnr]
    rfl
  · rintro v h' ⟨v', s', e1, rfl, q1, q2, q3⟩
    exact ⟨hl s s', fun j c _ => xl_ok_add _ j c, q2⟩
  · rintro v h' h1 ⟨v', s', e1, rfl, q1, q2, q3⟩ hbk
    have e := xl_back_add hcut h0 (hl s s') hbk
    have e2 : (P ++ (enc s ++ T)).take P.length = P := by simp
    have e3 : (P ++ (enc s ++ T)).drop (P.length + (enc s).length) = T := by
      rw [← List.append_assoc, show P.length + (enc s).length = (P ++ enc s).length by simp]
      simp
    rw [e2, e3] at e
    rw [e, e1]
    exact kk _ _ q3 q1
/-- the last field of cells that were just made -/
theorem xn_ldone {h : XH} (e : L = L) (k : xn_W S Nn M rc rs pc L rest h Po) : xn_W S Nn M rc rs pc L rest h Po := k
end XW
/-! ===== Table, World: their constructors ===== -/
def tab0 : TS := (0, fun _ => 0)
theorem hyq (n : String) : ∀ a, narrow (.object n) (.ref a) = .ref a ∧ fits (.object n) (.ref a) = true := fun a => ⟨rfl, rfl⟩
theorem hya (t : FieldType) : ∀ a, narrow (.array t) (.ref a) = .ref a ∧ fits (.array t) (.ref a) = true := fun a => ⟨rfl, rfl⟩
theorem newi {N : Nat} (cA : ClassId) : vp_cell cA (N, .inl (fun _ => iI 0)) = arrV cA N (fun _ => defaultValue (newarray.typeOf .int)) := rfl
theorem newl {N : Nat} (cA : ClassId) : vp_cell cA (N, .inr (.inl (fun _ => lI 0))) = arrV cA N (fun _ => defaultValue (newarray.typeOf .long)) := rfl
theorem newz {N : Nat} (cA : ClassId) : vp_cell cA (N, .inl (fun _ => iI 0)) = arrV cA N (fun _ => defaultValue (newarray.typeOf .boolean)) := rfl
theorem cX0_init_ok (rm w : Int) (N : Nat) (e1 : (if (0 : Int32) < iI rm then iI rm else 0) = iI rm) (e2 : (if (0 : Int32) < iI w then iI w else 0) = iI w) (e3 : iI rm * iI w = iI (rm * w)) (e4 : ¬ iI (rm * w) < 0) (e5 : (iI (rm * w)).toNatClampNeg = N) (e6 : N * 4 ≤ 536870912) (e7 : (rm * w).toNat = N) : xn_C mX0_init (0 + 1) (0 + N) [.ref 0, xi rm, xi w] [xO 0 dfX0] (fun h' => h' = encT rm w tab0) := by
  refine xn_con kX0_init [some (.ref 0), some (xi rm), some (xi w)] rfl (Nat.le_of_ble_eq_true rfl) ?_
  show xn_W none 1 mX0_init (0 + 1) (0 + N) 0 _ _ _ _
  refine xn_aload_n iX0_init_0 rfl ?_
  refine xn_obj oX0_init_1 ?_
  refine xn_aload_n iX0_init_4 rfl ?_
  refine xn_iconst 0 iX0_init_5 rfl ?_
  refine xn_iload_n iX0_init_6 rfl ?_
  refine xn_max (a := 0) (b := iI rm) iX0_init_7 (by decide) ?_
  rw [e1]
  refine xn_putfi pX0_init_10 (fs := dfX0) rfl (by decide) ?_
  show xn_W none 1 mX0_init _ _ 13 _ _ [xO 0 [xi rm, xi 0, .null, xi 0]] _
  refine xn_aload_n iX0_init_13 rfl ?_
  refine xn_iconst 0 iX0_init_14 rfl ?_
  refine xn_iload_n iX0_init_15 rfl ?_
  refine xn_max (a := 0) (b := iI w) iX0_init_16 (by decide) ?_
  rw [e2]
  refine xn_putfi pX0_init_19 (fs := [xi rm, xi 0, .null, xi 0]) rfl (Nat.le_of_ble_eq_true rfl) ?_
  show xn_W none 1 mX0_init _ _ 22 _ _ [xO 0 [xi rm, xi w, .null, xi 0]] _
  refine xn_aload_n iX0_init_22 rfl ?_
  refine xn_aload_n iX0_init_23 rfl ?_
  refine xn_get iX0_init_24 (v := xi rm) rfl rfl ?_
  refine xn_aload_n iX0_init_27 rfl ?_
  refine xn_get iX0_init_28 (v := xi w) rfl rfl ?_
  refine xn_imul (a := iI rm) (b := iI w) iX0_init_31 ?_
  rw [e3]
  refine xn_newa (t := 0) (a0 := (N, .inl (fun _ => iI 0))) iX0_init_32 ac_i (fun _ => rfl) newi e4 e5 e6 (Nat.le_refl _) (xn_fr_ok ⟨Nat.le_refl _, ⟨rfl, trivial⟩, rfl, rfl⟩) (fun _ _ => rfl) ?_
  refine xn_putf (fs := [xi rm, xi w, .null, xi 0]) pX0_init_34 (hya _) (Nat.zero_le _) rfl (Nat.le_of_ble_eq_true rfl) ?_
  refine xn_return iX0_init_37 rfl ⟨rfl, ?_⟩
  show [xO 0 [xi rm, xi w, .ref 1, xi 0], xA N (fun _ => 0)] = _
  rw [← e7]
  rfl
end
-- 88.cw
section
/-! ===== World: its constructor ===== -/
theorem cX0_t0 : xn_C mX0_init 1 20 [.ref 0, xi 4, xi 5] [xO 0 dfX0] (fun h' => h' = encT (rmT 0) (wdT 0) tab0) := cX0_init_ok 4 5 20 (by decide) (by decide) (by decide) (by decide) (by decide) (by decide) (by decide)
theorem cX0_t1 : xn_C mX0_init 1 1127 [.ref 0, xi 161, xi 7] [xO 0 dfX0] (fun h' => h' = encT (rmT 1) (wdT 1) tab0) := cX0_init_ok 161 7 1127 (by decide) (by decide) (by decide) (by decide) (by decide) (by decide) (by decide)
theorem cX0_t2 : xn_C mX0_init 1 360 [.ref 0, xi 60, xi 6] [xO 0 dfX0] (fun h' => h' = encT (rmT 2) (wdT 2) tab0) := cX0_init_ok 60 6 360 (by decide) (by decide) (by decide) (by decide) (by decide) (by decide) (by decide)
theorem cX0_t3 : xn_C mX0_init 1 280 [.ref 0, xi 40, xi 7] [xO 0 dfX0] (fun h' => h' = encT (rmT 3) (wdT 3) tab0) := cX0_init_ok 40 7 280 (by decide) (by decide) (by decide) (by decide) (by decide) (by decide) (by decide)
theorem cX0_t4 : xn_C mX0_init 1 1120 [.ref 0, xi 160, xi 7] [xO 0 dfX0] (fun h' => h' = encT (rmT 4) (wdT 4) tab0) := cX0_init_ok 160 7 1120 (by decide) (by decide) (by decide) (by decide) (by decide) (by decide) (by decide)
theorem cX0_t5 : xn_C mX0_init 1 48 [.ref 0, xi 6, xi 8] [xO 0 dfX0] (fun h' => h' = encT (rmT 5) (wdT 5) tab0) := cX0_init_ok 6 8 48 (by decide) (by decide) (by decide) (by decide) (by decide) (by decide) (by decide)
def wraw : WS := (fun _ => 0, fun _ => tab0)
def w1 : WS := wReset wraw 1 10 5 0
theorem xB_z : xB 0 := ⟨by decide, by decide⟩
theorem wraw_b : bdW wraw := ⟨fun _ => xB_z, fun _ => ⟨xB_z, fun _ => xB_z⟩⟩
theorem cX1_init_ok : xn_C mX1_init 12 2979 [.ref 0] [xO 1 dfX1] (fun h' => h' = encW w1 ∧ bdW w1) := by
  refine xn_con kX1_init [some (.ref 0)] rfl (Nat.le_of_ble_eq_true rfl) ?_
  refine xn_aload_n iX1_init_0 rfl ?_
  refine xn_obj oX1_init_1 ?_
  refine xn_aload_n iX1_init_4 rfl ?_
  refine xn_new (rc := 11) (rs := 2975) nX1_init_5 (Nat.le_of_ble_eq_true rfl) (xn_fr_ok ⟨Nat.le_refl _, ⟨rfl, trivial⟩, rfl, rfl⟩) (fun _ _ => rfl) ?_
  refine xn_dup iX1_init_8 rfl ?_
  refine xn_iconst (iI 4) iX1_init_9 rfl ?_
  refine xn_iconst (iI 5) iX1_init_10 rfl ?_
  refine xn_callI (rc := 10) (rs := 2955) (h0 := (xO 1 [xi 0, xi 0, xi 0, xi 0, xi 0, xi 0, xi 0, xi 0, xi 0, xi 0, .null, .null, .null, .null, .null, .null] :: [])) (As := [xi 4, xi 5]) (rest := [.ref 1, .ref 0]) sX1_init_11 nkX0_init rfl rfl rfl (by decide) ⟨Nat.le_succ _, ⟨rfl, trivial⟩, rfl, rfl⟩ (Nat.le_of_ble_eq_true rfl) cX0_t0 (fun h' e => ?_)
  subst e
  refine xn_putf pX1_init_14 (hyq _) (Nat.zero_le _) rfl (Nat.le_of_ble_eq_true rfl) ?_
  show xn_W none 1 mX1_init 10 2955 17 _ _ (xO 1 [xi 0, xi 0, xi 0, xi 0, xi 0, xi 0, xi 0, xi 0, xi 0, xi 0, .ref 1, .null, .null, .null, .null, .null] :: (encT (rmT 0) (wdT 0) tab0)) _
  refine xn_aload_n iX1_init_17 rfl ?_
  refine xn_new (rc := 9) (rs := 2951) nX1_init_18 (Nat.le_of_ble_eq_true rfl) (xn_fr_ok ⟨Nat.le_refl _, ⟨rfl, rfl, trivial, trivial⟩, rfl, rfl⟩) (fun _ _ => rfl) ?_
  refine xn_dup iX1_init_21 rfl ?_
  refine xn_sipush (iI 161) iX1_init_22 (by decide) ?_
  refine xn_bipush (iI 7) iX1_init_25 (by decide) ?_
  refine xn_callI (rc := 8) (rs := 1824) (h0 := (xO 1 [xi 0, xi 0, xi 0, xi 0, xi 0, xi 0, xi 0, xi 0, xi 0, xi 0, .ref 1, .null, .null, .null, .null, .null] :: (encT (rmT 0) (wdT 0) tab0))) (As := [xi 161, xi 7]) (rest := [.ref 3, .ref 0]) sX1_init_27 nkX0_init rfl rfl rfl (by decide) ⟨Nat.le_succ _, ⟨rfl, rfl, trivial, trivial⟩, rfl, rfl⟩ (Nat.le_of_ble_eq_true rfl) cX0_t1 (fun h' e => ?_)
  subst e
  refine xn_putf pX1_init_30 (hyq _) (Nat.zero_le _) rfl (Nat.le_of_ble_eq_true rfl) ?_
  show xn_W none 1 mX1_init 8 1824 33 _ _ (xO 1 [xi 0, xi 0, xi 0, xi 0, xi 0, xi 0, xi 0, xi 0, xi 0, xi 0, .ref 1, .ref 3, .null, .null, .null, .null] :: (encT (rmT 0) (wdT 0) tab0 ++ (encT (rmT 1) (wdT 1) tab0))) _
  refine xn_aload_n iX1_init_33 rfl ?_
  refine xn_new (rc := 7) (rs := 1820) nX1_init_34 (Nat.le_of_ble_eq_true rfl) (xn_fr_ok ⟨Nat.le_refl _, ⟨rfl, rfl, trivial, rfl, trivial, trivial⟩, rfl, rfl⟩) (fun _ _ => rfl) ?_
  refine xn_dup iX1_init_37 rfl ?_
  refine xn_bipush (iI 60) iX1_init_38 (by decide) ?_
  refine xn_bipush (iI 6) iX1_init_40 (by decide) ?_
  refine xn_callI (rc := 6) (rs := 1460) (h0 := (xO 1 [xi 0, xi 0, xi 0, xi 0, xi 0, xi 0, xi 0, xi 0, xi 0, xi 0, .ref 1, .ref 3, .null, .null, .null, .null] :: (encT (rmT 0) (wdT 0) tab0 ++ (encT (rmT 1) (wdT 1) tab0)))) (As := [xi 60, xi 6]) (rest := [.ref 5, .ref 0]) sX1_init_42 nkX0_init rfl rfl rfl (by decide) ⟨Nat.le_succ _, ⟨rfl, rfl, trivial, rfl, trivial, trivial⟩, rfl, rfl⟩ (Nat.le_of_ble_eq_true rfl) cX0_t2 (fun h' e => ?_)
  subst e
  refine xn_putf pX1_init_45 (hyq _) (Nat.zero_le _) rfl (Nat.le_of_ble_eq_true rfl) ?_
  show xn_W none 1 mX1_init 6 1460 48 _ _ (xO 1 [xi 0, xi 0, xi 0, xi 0, xi 0, xi 0, xi 0, xi 0, xi 0, xi 0, .ref 1, .ref 3, .ref 5, .null, .null, .null] :: (encT (rmT 0) (wdT 0) tab0 ++ (encT (rmT 1) (wdT 1) tab0 ++ (encT (rmT 2) (wdT 2) tab0)))) _
  refine xn_aload_n iX1_init_48 rfl ?_
  refine xn_new (rc := 5) (rs := 1456) nX1_init_49 (Nat.le_of_ble_eq_true rfl) (xn_fr_ok ⟨Nat.le_refl _, ⟨rfl, rfl, trivial, rfl, trivial, rfl, trivial, trivial⟩, rfl, rfl⟩) (fun _ _ => rfl) ?_
  refine xn_dup iX1_init_52 rfl ?_
  refine xn_bipush (iI 40) iX1_init_53 (by decide) ?_
  refine xn_bipush (iI 7) iX1_init_55 (by decide) ?_
  refine xn_callI (rc := 4) (rs := 1176) (h0 := (xO 1 [xi 0, xi 0, xi 0, xi 0, xi 0, xi 0, xi 0, xi 0, xi 0, xi 0, .ref 1, .ref 3, .ref 5, .null, .null, .null] :: (encT (rmT 0) (wdT 0) tab0 ++ (encT (rmT 1) (wdT 1) tab0 ++ (encT (rmT 2) (wdT 2) tab0))))) (As := [xi 40, xi 7]) (rest := [.ref 7, .ref 0]) sX1_init_57 nkX0_init rfl rfl rfl (by decide) ⟨Nat.le_succ _, ⟨rfl, rfl, trivial, rfl, trivial, rfl, trivial, trivial⟩, rfl, rfl⟩ (Nat.le_of_ble_eq_true rfl) cX0_t3 (fun h' e => ?_)
  subst e
  refine xn_putf pX1_init_60 (hyq _) (Nat.zero_le _) rfl (Nat.le_of_ble_eq_true rfl) ?_
  show xn_W none 1 mX1_init 4 1176 63 _ _ (xO 1 [xi 0, xi 0, xi 0, xi 0, xi 0, xi 0, xi 0, xi 0, xi 0, xi 0, .ref 1, .ref 3, .ref 5, .ref 7, .null, .null] :: (encT (rmT 0) (wdT 0) tab0 ++ (encT (rmT 1) (wdT 1) tab0 ++ (encT (rmT 2) (wdT 2) tab0 ++ (encT (rmT 3) (wdT 3) tab0))))) _
  refine xn_aload_n iX1_init_63 rfl ?_
  refine xn_new (rc := 3) (rs := 1172) nX1_init_64 (Nat.le_of_ble_eq_true rfl) (xn_fr_ok ⟨Nat.le_refl _, ⟨rfl, rfl, trivial, rfl, trivial, rfl, trivial, rfl, trivial, trivial⟩, rfl, rfl⟩) (fun _ _ => rfl) ?_
  refine xn_dup iX1_init_67 rfl ?_
  refine xn_sipush (iI 160) iX1_init_68 (by decide) ?_
  refine xn_bipush (iI 7) iX1_init_71 (by decide) ?_
  refine xn_callI (rc := 2) (rs := 52) (h0 := (xO 1 [xi 0, xi 0, xi 0, xi 0, xi 0, xi 0, xi 0, xi 0, xi 0, xi 0, .ref 1, .ref 3, .ref 5, .ref 7, .null, .null] :: (encT (rmT 0) (wdT 0) tab0 ++ (encT (rmT 1) (wdT 1) tab0 ++ (encT (rmT 2) (wdT 2) tab0 ++ (encT (rmT 3) (wdT 3) tab0)))))) (As := [xi 160, xi 7]) (rest := [.ref 9, .ref 0]) sX1_init_73 nkX0_init rfl rfl rfl (by decide) ⟨Nat.le_succ _, ⟨rfl, rfl, trivial, rfl, trivial, rfl, trivial, rfl, trivial, trivial⟩, rfl, rfl⟩ (Nat.le_of_ble_eq_true rfl) cX0_t4 (fun h' e => ?_)
  subst e
  refine xn_putf pX1_init_76 (hyq _) (Nat.zero_le _) rfl (Nat.le_of_ble_eq_true rfl) ?_
  show xn_W none 1 mX1_init 2 52 79 _ _ (xO 1 [xi 0, xi 0, xi 0, xi 0, xi 0, xi 0, xi 0, xi 0, xi 0, xi 0, .ref 1, .ref 3, .ref 5, .ref 7, .ref 9, .null] :: (encT (rmT 0) (wdT 0) tab0 ++ (encT (rmT 1) (wdT 1) tab0 ++ (encT (rmT 2) (wdT 2) tab0 ++ (encT (rmT 3) (wdT 3) tab0 ++ (encT (rmT 4) (wdT 4) tab0)))))) _
  refine xn_aload_n iX1_init_79 rfl ?_
  refine xn_new (rc := 1) (rs := 48) nX1_init_80 (Nat.le_of_ble_eq_true rfl) (xn_fr_ok ⟨Nat.le_refl _, ⟨rfl, rfl, trivial, rfl, trivial, rfl, trivial, rfl, trivial, rfl, trivial, trivial⟩, rfl, rfl⟩) (fun _ _ => rfl) ?_
  refine xn_dup iX1_init_83 rfl ?_
  refine xn_bipush (iI 6) iX1_init_84 (by decide) ?_
  refine xn_bipush (iI 8) iX1_init_86 (by decide) ?_
  refine xn_callI (rc := 0) (rs := 0) (h0 := (xO 1 [xi 0, xi 0, xi 0, xi 0, xi 0, xi 0, xi 0, xi 0, xi 0, xi 0, .ref 1, .ref 3, .ref 5, .ref 7, .ref 9, .null] :: (encT (rmT 0) (wdT 0) tab0 ++ (encT (rmT 1) (wdT 1) tab0 ++ (encT (rmT 2) (wdT 2) tab0 ++ (encT (rmT 3) (wdT 3) tab0 ++ (encT (rmT 4) (wdT 4) tab0))))))) (As := [xi 6, xi 8]) (rest := [.ref 11, .ref 0]) sX1_init_88 nkX0_init rfl rfl rfl (by decide) ⟨Nat.le_succ _, ⟨rfl, rfl, trivial, rfl, trivial, rfl, trivial, rfl, trivial, rfl, trivial, trivial⟩, rfl, rfl⟩ (Nat.le_of_ble_eq_true rfl) cX0_t5 (fun h' e => ?_)
  subst e
  refine xn_putf pX1_init_91 (hyq _) (Nat.zero_le _) rfl (Nat.le_of_ble_eq_true rfl) ?_
  show xn_W none 1 mX1_init 0 0 94 _ _ (xO 1 [xi 0, xi 0, xi 0, xi 0, xi 0, xi 0, xi 0, xi 0, xi 0, xi 0, .ref 1, .ref 3, .ref 5, .ref 7, .ref 9, .ref 11] :: (encT (rmT 0) (wdT 0) tab0 ++ (encT (rmT 1) (wdT 1) tab0 ++ (encT (rmT 2) (wdT 2) tab0 ++ (encT (rmT 3) (wdT 3) tab0 ++ (encT (rmT 4) (wdT 4) tab0 ++ (encT (rmT 5) (wdT 5) tab0))))))) _
  refine xn_aload_n iX1_init_94 rfl ?_
  refine xn_iconst (iI 1) iX1_init_95 rfl ?_
  refine xn_bipush (iI 10) iX1_init_96 (by decide) ?_
  refine xn_iconst (iI 5) iX1_init_98 rfl ?_
  refine xn_iconst (iI 0) iX1_init_99 rfl ?_
  refine xn_callR (enc := encW) (bd := bdW) [] [] (as := [pI 1, pI 10, pI 5, pI 0]) (s := wraw) (K := fun v s' => v = [] ∧ s' = w1) (rest := []) iX1_init_100 vX1_reset mX1_reset_ok wcl lenW recW rfl rfl (by decide) wraw_b ⟨⟨⟨by decide, by decide⟩, ⟨by decide, by decide⟩, ⟨by decide, by decide⟩, ⟨by decide, by decide⟩⟩, rfl, rfl⟩ (fun v s' e hb => ?_)
  obtain ⟨rfl, rfl⟩ := e
  refine xn_return iX1_init_103 rfl ⟨rfl, ?_, hb⟩
  rw [List.nil_append, List.append_nil]
end
-- 89.cx
section
/-! ===== LateSessions: its constructor ===== -/
theorem encW_cl (w : WS) : xn_cl 13 0 (encW w) := ⟨rfl, rfl, trivial, rfl, trivial, rfl, trivial, rfl, trivial, rfl, trivial, rfl, trivial, trivial⟩
theorem encW_cln (w : WS) {n k : Nat} (h : k + 13 ≤ n) : xn_cl n k (encW w) := xn_cl_mono (n := 13) (k := 0) (by omega) (encW_cl w)
def rpW : Nat → XH
  | 0 => []
  | m + 1 => encW w1 ++ rpW m
theorem rpW_len : ∀ m, (rpW m).length = 13 * m
  | 0 => rfl
  | m + 1 => by rw [rpW, List.length_append, lenW13, rpW_len m]; omega
theorem rpW_cl : ∀ (m n k : Nat), k + 13 * m ≤ n → xn_cl n k (rpW m)
  | 0, _, _, _ => trivial
  | m + 1, n, k, h => xn_cl_app (encW_cln w1 (by omega)) (rpW_cl m n _ (by rw [lenW13]; omega))
def upF : Nat → Nat → (Nat → Option Nat) → (Nat → Option Nat)
  | 0, _, f => f
  | m + 1, j, f => upF m (j + 1) (va_up f j (some (1 + 13 * j)))
theorem upF_lt : ∀ (m j : Nat) (f : Nat → Option Nat), (∀ i d, f i = some d → d < 1 + 13 * j) → ∀ i d, upF m j f i = some d → d < 1 + 13 * (j + m)
  | 0, j, f, h, i, d, e => h i d e
  | m + 1, j, f, h, i, d, e => by
    have := upF_lt m (j + 1) _ (fun i d e => ?_) i d e
    · omega
    · unfold va_up at e
      split at e
      · cases e; omega
      · have := h i d e; omega
theorem xn_ar {n k : Nat} {st : List Value} (hk : k < n) (h : st.all (xn_vl n 0) = true) : (Value.ref k :: st).all (xn_vl n 0) = true := by
  show (Nat.blt (0 + k) n && st.all (xn_vl n 0)) = true
  rw [h, Bool.and_true]
  exact Nat.ble_eq_true_of_le (by omega)
theorem xl_n_lft {α : Type} {P X : List α} {i : Nat} (h : i < P.length) : xl_n (P ++ X) i = xl_n P i := by rw [xl_n_eq, xl_n_eq, List.getElem?_append_left h]
theorem xl_n_mid {α : Type} (P : List α) (c : α) (T : List α) : xl_n (P ++ c :: T) P.length = some c := by rw [xl_n_eq]; simp
theorem xl_s_mid {α : Type} (P : List α) (c c' : α) (T : List α) : xl_s (P ++ c :: T) P.length c' = P ++ c' :: T := by rw [xl_s_eq]; simp
theorem mid_cl {P : XH} {n0 : Nat} {N : Nat} {f : Nat → Option Nat} {T : XH} {n : Nat} (h1 : xn_cl n0 0 P) (h2 : n0 ≤ n) (h3 : ∀ i d, f i = some d → P.length + d < n) (h4 : xn_cl n (P.length + 1) T) : xn_cl n 0 (P ++ xQ N f :: T) :=
  xn_cl_app (xn_cl_mono (by omega) h1) ⟨fun i d e => by rw [Nat.zero_add]; exact h3 i d e, by rw [Nat.zero_add]; exact h4⟩
theorem X2_init_l1 {Po : Option (Option Value) → XH → Prop} (P : XH) (fs : List Value) (hP : P.length = 27) (hPc : xn_cl 28 0 P) (hO : xl_n P 0 = some (.inr (2, fs))) (hf : xl_n fs 2 = some (.ref 27)) : ∀ (m j : Nat) (T : XH) (f : Nat → Option Nat) (rc rs : Nat), j + m = 6 → T.length = 13 * j → xn_cl (28 + 13 * j) 28 T → (∀ i d, f i = some d → d < 1 + 13 * j) →
    xn_W none 1 mX2_init rc rs 62 [some (.ref 0), some (xi 6)] [] (P ++ xQ 6 (upF m j f) :: (T ++ rpW m)) Po → xn_W none 1 mX2_init (rc + 13 * m) (rs + 2995 * m) 37 [some (.ref 0), some (xi j)] [] (P ++ xQ 6 f :: T) Po
  | 0, j, T, f, rc, rs, hj, hT, hTc, hF, k => by
    have e : j = 6 := by omega
    subst e
    refine xn_iload_n iX2_init_37 rfl ?_
    refine xn_bipush (iI 6) iX2_init_38 (by decide) ?_
    refine xn_icmp_ge iX2_init_40 (fun _ => ?_) (fun h => absurd (by decide) h)
    rw [rpW, List.append_nil] at k
    exact k
  | m + 1, j, T, f, rc, rs, hj, hT, hTc, hF, k => by
    have hlen : (P ++ xQ 6 f :: T).length = 28 + 13 * j := by simp; omega
    have hcl : xn_cl (28 + 13 * j) 0 (P ++ xQ 6 f :: T) := mid_cl hPc (by omega) (fun i d e => by have := hF i d e; omega) (by rw [hP]; exact hTc)
    refine xn_iload_n iX2_init_37 rfl ?_
    refine xn_bipush (iI 6) iX2_init_38 (by decide) ?_
    refine xn_icmp_ge iX2_init_40 (fun h => absurd ((iI_le (a := 6) (b := (j : Int)) ⟨by omega, by omega⟩ ⟨by omega, by omega⟩).mp h) (by omega)) (fun _ => ?_)
    refine xn_aload_n iX2_init_43 rfl ?_
    refine xn_get iX2_init_44 (v := .ref 27) (by rw [xl_n_lft (by omega)]; exact hO) hf ?_
    refine xn_iload_n iX2_init_47 rfl ?_
    show xn_W none 1 mX2_init _ _ 48 _ [xi j, .ref 27] _ _
    rw [show rc + 13 * (m + 1) = rc + 13 * m + 12 + 1 by omega, show rs + 2995 * (m + 1) = rs + 2995 * m + 2979 + 16 by omega]
    refine xn_new nX2_init_48 (by omega) (xn_fr_ok ⟨Nat.le_refl _, by rw [hlen]; exact hcl, by rw [hlen]; exact xn_ar (st := []) (by omega) rfl, by rw [hlen]; exact xn_ar (st := []) (k := 0) (by omega) rfl⟩) (fun _ _ => rfl) ?_
    refine xn_dup iX2_init_51 rfl ?_
    refine xn_callI (h0 := P ++ xQ 6 f :: T) (As := []) (rest := [.ref (P ++ xQ 6 f :: T).length, xi j, .ref 27]) sX2_init_52 nkX1_init rfl rfl rfl (by simp [xl_1]) ⟨Nat.le_succ _, by rw [hlen]; exact xn_cl_mono (by omega) hcl, by rw [hlen]; exact xn_ar (by omega) (xn_ar (st := []) (by omega) rfl), by rw [hlen]; exact xn_ar (st := []) (k := 0) (by omega) rfl⟩ (by omega) cX1_init_ok (fun h' e => ?_)
    obtain ⟨rfl, -⟩ := e
    have ea : (P ++ xQ 6 f :: T) ++ encW w1 = P ++ xQ 6 f :: (T ++ encW w1) := by simp
    have hob : xl_n (P ++ xQ 6 f :: (T ++ encW w1)) (28 + 13 * j) = some (xO 1 [xi (w1.1 0), xi (w1.1 1), xi (w1.1 2), xi (w1.1 3), xi (w1.1 4), xi (w1.1 5), xi (w1.1 6), xi (w1.1 7), xi (w1.1 8), xi (w1.1 9), .ref 1, .ref 3, .ref 5, .ref 7, .ref 9, .ref 11]) := by
      rw [← ea, xl_n_eq, List.getElem?_append_right (by omega), hlen, Nat.sub_self]
      rfl
    rw [ea, hlen]
    refine xn_aast (r := 27) (b := 28 + 13 * j) (i := iI j) iX2_init_55 (by rw [← hP]; exact xl_n_mid P _ _) (by omega) hob (iI_in ⟨by omega, by omega⟩ (by omega) (by omega)) ?_
    have es : xl_s (P ++ xQ 6 f :: (T ++ encW w1)) 27 (xQ 6 (va_up f (iI j).toNatClampNeg (some (28 + 13 * j - 27)))) = P ++ xQ 6 (va_up f j (some (1 + 13 * j))) :: (T ++ encW w1) := by
      rw [iI_nat ⟨by omega, by omega⟩, show ((j : Int)).toNat = j from rfl, show 28 + 13 * j - 27 = 1 + 13 * j by omega]
      have := xl_s_mid P (xQ 6 f) (xQ 6 (va_up f j (some (1 + 13 * j)))) (T ++ encW w1)
      rw [hP] at this
      exact this
    rw [es]
    refine xn_iinc iX2_init_56 rfl rfl (by decide) ?_
    have ei : iI j + Int32.ofInt 1 = iI ((j + 1 : Nat) : Int) := by
      rw [show Int32.ofInt 1 = iI 1 from rfl, iI_add]
      rfl
    rw [ei]
    refine xn_goto iX2_init_59 ?_
    refine X2_init_l1 P fs hP hPc hO hf m (j + 1) (T ++ encW w1) _ rc rs (by omega) (by rw [List.length_append, hT, lenW13]; omega) (xn_cl_app (xn_cl_mono (by omega) hTc) (encW_cln w1 (by omega))) (fun i d e => ?_) ?_
    · unfold va_up at e
      split at e
      · cases e; omega
      · have := hF i d e; omega
    · rw [List.append_assoc]
      exact k
theorem X2_init_l2 {Po : Option (Option Value) → XH → Prop} (P : XH) (fs : List Value) (hP : P.length = 106) (hPc : xn_cl 107 0 P) (hO : xl_n P 0 = some (.inr (2, fs))) (hf : xl_n fs 5 = some (.ref 106)) : ∀ (m j : Nat) (T : XH) (f : Nat → Option Nat) (rc rs : Nat), j + m = 2 → T.length = 13 * j → xn_cl (107 + 13 * j) 107 T → (∀ i d, f i = some d → d < 1 + 13 * j) →
    xn_W none 1 mX2_init rc rs 96 [some (.ref 0), some (xi 2)] [] (P ++ xQ 2 (upF m j f) :: (T ++ rpW m)) Po → xn_W none 1 mX2_init (rc + 13 * m) (rs + 2995 * m) 72 [some (.ref 0), some (xi j)] [] (P ++ xQ 2 f :: T) Po
  | 0, j, T, f, rc, rs, hj, hT, hTc, hF, k => by
    have e : j = 2 := by omega
    subst e
    refine xn_iload_n iX2_init_72 rfl ?_
    refine xn_iconst (iI 2) iX2_init_73 (by decide) ?_
    refine xn_icmp_ge iX2_init_74 (fun _ => ?_) (fun h => absurd (by decide) h)
    rw [rpW, List.append_nil] at k
    exact k
  | m + 1, j, T, f, rc, rs, hj, hT, hTc, hF, k => by
    have hlen : (P ++ xQ 2 f :: T).length = 107 + 13 * j := by simp; omega
    have hcl : xn_cl (107 + 13 * j) 0 (P ++ xQ 2 f :: T) := mid_cl hPc (by omega) (fun i d e => by have := hF i d e; omega) (by rw [hP]; exact hTc)
    refine xn_iload_n iX2_init_72 rfl ?_
    refine xn_iconst (iI 2) iX2_init_73 (by decide) ?_
    refine xn_icmp_ge iX2_init_74 (fun h => absurd ((iI_le (a := 2) (b := (j : Int)) ⟨by omega, by omega⟩ ⟨by omega, by omega⟩).mp h) (by omega)) (fun _ => ?_)
    refine xn_aload_n iX2_init_77 rfl ?_
    refine xn_get iX2_init_78 (v := .ref 106) (by rw [xl_n_lft (by omega)]; exact hO) hf ?_
    refine xn_iload_n iX2_init_81 rfl ?_
    show xn_W none 1 mX2_init _ _ 82 _ [xi j, .ref 106] _ _
    rw [show rc + 13 * (m + 1) = rc + 13 * m + 12 + 1 by omega, show rs + 2995 * (m + 1) = rs + 2995 * m + 2979 + 16 by omega]
    refine xn_new nX2_init_82 (by omega) (xn_fr_ok ⟨Nat.le_refl _, by rw [hlen]; exact hcl, by rw [hlen]; exact xn_ar (st := []) (by omega) rfl, by rw [hlen]; exact xn_ar (st := []) (k := 0) (by omega) rfl⟩) (fun _ _ => rfl) ?_
    refine xn_dup iX2_init_85 rfl ?_
    refine xn_callI (h0 := P ++ xQ 2 f :: T) (As := []) (rest := [.ref (P ++ xQ 2 f :: T).length, xi j, .ref 106]) sX2_init_86 nkX1_init rfl rfl rfl (by simp [xl_1]) ⟨Nat.le_succ _, by rw [hlen]; exact xn_cl_mono (by omega) hcl, by rw [hlen]; exact xn_ar (by omega) (xn_ar (st := []) (by omega) rfl), by rw [hlen]; exact xn_ar (st := []) (k := 0) (by omega) rfl⟩ (by omega) cX1_init_ok (fun h' e => ?_)
    obtain ⟨rfl, -⟩ := e
    have ea : (P ++ xQ 2 f :: T) ++ encW w1 = P ++ xQ 2 f :: (T ++ encW w1) := by simp
    have hob : xl_n (P ++ xQ 2 f :: (T ++ encW w1)) (107 + 13 * j) = some (xO 1 [xi (w1.1 0), xi (w1.1 1), xi (w1.1 2), xi (w1.1 3), xi (w1.1 4), xi (w1.1 5), xi (w1.1 6), xi (w1.1 7), xi (w1.1 8), xi (w1.1 9), .ref 1, .ref 3, .ref 5, .ref 7, .ref 9, .ref 11]) := by
      rw [← ea, xl_n_eq, List.getElem?_append_right (by omega), hlen, Nat.sub_self]
      rfl
    rw [ea, hlen]
    refine xn_aast (r := 106) (b := 107 + 13 * j) (i := iI j) iX2_init_89 (by rw [← hP]; exact xl_n_mid P _ _) (by omega) hob (iI_in ⟨by omega, by omega⟩ (by omega) (by omega)) ?_
    have es : xl_s (P ++ xQ 2 f :: (T ++ encW w1)) 106 (xQ 2 (va_up f (iI j).toNatClampNeg (some (107 + 13 * j - 106)))) = P ++ xQ 2 (va_up f j (some (1 + 13 * j))) :: (T ++ encW w1) := by
      rw [iI_nat ⟨by omega, by omega⟩, show ((j : Int)).toNat = j from rfl, show 107 + 13 * j - 106 = 1 + 13 * j by omega]
      have := xl_s_mid P (xQ 2 f) (xQ 2 (va_up f j (some (1 + 13 * j)))) (T ++ encW w1)
      rw [hP] at this
      exact this
    rw [es]
    refine xn_iinc iX2_init_90 rfl rfl (by decide) ?_
    have ei : iI j + Int32.ofInt 1 = iI ((j + 1 : Nat) : Int) := by
      rw [show Int32.ofInt 1 = iI 1 from rfl, iI_add]
      rfl
    rw [ei]
    refine xn_goto iX2_init_93 ?_
    refine X2_init_l2 P fs hP hPc hO hf m (j + 1) (T ++ encW w1) _ rc rs (by omega) (by rw [List.length_append, hT, lenW13]; omega) (xn_cl_app (xn_cl_mono (by omega) hTc) (encW_cln w1 (by omega))) (fun i d e => ?_) ?_
    · unfold va_up at e
      split at e
      · cases e; omega
      · have := hF i d e; omega
    · rw [List.append_assoc]
      exact k
end
-- 90.cy
section
/-! ===== LateSessions: its constructor, whole ===== -/
def natL (fs : List Value) (u k : Nat → Option Nat) (t : XH) : XH := (xO 2 fs :: (encW w1 ++ (encW w1 ++ xQ 6 u :: rpW 6))) ++ xQ 2 k :: (rpW 2 ++ t)
theorem natP1_len (fs : List Value) : (xO 2 fs :: (encW w1 ++ encW w1)).length = 27 := rfl
theorem natP2_len (fs : List Value) (u : Nat → Option Nat) : (xO 2 fs :: (encW w1 ++ (encW w1 ++ xQ 6 u :: rpW 6))).length = 106 := rfl
theorem natP1_cl (fs : List Value) {n : Nat} (hn : 27 ≤ n) (h : fs.all (xn_vl n 0) = true) : xn_cl n 0 (xO 2 fs :: (encW w1 ++ encW w1)) :=
  ⟨h, xn_cl_app (encW_cln w1 (by omega)) (encW_cln w1 (by rw [lenW13]; omega))⟩
theorem natP2_cl (fs : List Value) {u : Nat → Option Nat} {n : Nat} (hn : 106 ≤ n) (h : fs.all (xn_vl n 0) = true) (hu : ∀ i d, u i = some d → 27 + d < n) : xn_cl n 0 (xO 2 fs :: (encW w1 ++ (encW w1 ++ xQ 6 u :: rpW 6))) :=
  ⟨h, xn_cl_app (encW_cln w1 (by omega)) (xn_cl_app (encW_cln w1 (by rw [lenW13]; omega)) ⟨hu, rpW_cl 6 n 28 (by omega)⟩)⟩
theorem natL_len (fs : List Value) (u k : Nat → Option Nat) (t : XH) : (natL fs u k t).length = 133 + t.length := by
  rw [natL, List.length_append, natP2_len, List.length_cons, List.length_append, rpW_len]; omega
theorem natL_cl (fs : List Value) {u k : Nat → Option Nat} {t : XH} {n : Nat} (hn : 133 ≤ n) (h : fs.all (xn_vl n 0) = true) (hu : ∀ i d, u i = some d → 27 + d < n) (hk : ∀ i d, k i = some d → 106 + d < n) (ht : xn_cl n 133 t) : xn_cl n 0 (natL fs u k t) :=
  xn_cl_app (natP2_cl fs (by omega) h hu) ⟨hk, xn_cl_app (rpW_cl 2 n 107 (by omega)) ht⟩
def uF : Nat → Option Nat := upF 6 0 (fun _ => none)
def kF : Nat → Option Nat := upF 2 0 (fun _ => none)
theorem uF_lt (i d : Nat) (h : uF i = some d) : d < 79 := upF_lt 6 0 _ (fun i d e => by cases e) i d h
theorem kF_lt (i d : Nat) (h : kF i = some d) : d < 27 := upF_lt 2 0 _ (fun i d e => by cases e) i d h
def s1 : LSt := (fun _ => 0, fun _ _ => 0, fun _ => w1)
/-- where what encL lays first was made -/
def piN (j : Nat) : Nat := bif Nat.blt j 7 then (bif Nat.beq j 0 then 0 else bif Nat.beq j 1 then 27 else bif Nat.beq j 2 then 106 else j + 130) else bif Nat.blt j 33 then j - 6 else bif Nat.blt j 111 then j - 5 else j - 4
def piI (j : Nat) : Nat := bif Nat.beq j 0 then 0 else bif Nat.beq j 27 then 1 else bif Nat.beq j 106 then 2 else bif Nat.blt 132 j then j - 130 else bif Nat.blt j 27 then j + 6 else bif Nat.blt j 106 then j + 5 else j + 4
theorem piN_inv : ∀ j, j < 137 → piI (piN j) = j := by decide +kernel
theorem piN_w : ∀ q, q < 10 → ∀ j, j < 13 → piN (7 + 13 * q + j) = piN (7 + 13 * q) + j := by decide +kernel
def fsL : List Value := [.ref 1, .ref 14, .ref 27, xi 0, xi 0, .ref 106, xi 0, .ref 133, xi 0, .ref 134, xi 0, .ref 135, .ref 136]
def tlL : XH := [xL 6 (fun _ => 0), xA 80 (fun _ => 0), xA 160 (fun _ => 0), xA 101 (fun _ => 0)]
theorem midW {A E B : XH} {j : Nat} (h : j < E.length) : (A ++ (E ++ B))[A.length + j]? = E[j]? := by
  rw [List.getElem?_append_right (by omega), Nat.add_sub_cancel_left, List.getElem?_append_left h]
theorem natL_w : ∀ q, q < 10 → ∀ j, j < 13 → (natL fsL uF kF tlL)[piN (7 + 13 * q) + j]? = (encW w1)[j]?
  | 0, _, j, hj => midW (A := [xO 2 fsL]) (E := encW w1) (B := encW w1 ++ xQ 6 uF :: (rpW 6 ++ xQ 2 kF :: (rpW 2 ++ tlL))) hj
  | 1, _, j, hj => midW (A := xO 2 fsL :: encW w1) (E := encW w1) (B := xQ 6 uF :: (rpW 6 ++ xQ 2 kF :: (rpW 2 ++ tlL))) hj
  | 2, _, j, hj => midW (A := xO 2 fsL :: (encW w1 ++ (encW w1 ++ [xQ 6 uF]))) (E := encW w1) (B := rpW 5 ++ xQ 2 kF :: (rpW 2 ++ tlL)) hj
  | 3, _, j, hj => midW (A := xO 2 fsL :: (encW w1 ++ (encW w1 ++ xQ 6 uF :: rpW 1))) (E := encW w1) (B := rpW 4 ++ xQ 2 kF :: (rpW 2 ++ tlL)) hj
  | 4, _, j, hj => midW (A := xO 2 fsL :: (encW w1 ++ (encW w1 ++ xQ 6 uF :: rpW 2))) (E := encW w1) (B := rpW 3 ++ xQ 2 kF :: (rpW 2 ++ tlL)) hj
  | 5, _, j, hj => midW (A := xO 2 fsL :: (encW w1 ++ (encW w1 ++ xQ 6 uF :: rpW 3))) (E := encW w1) (B := rpW 2 ++ xQ 2 kF :: (rpW 2 ++ tlL)) hj
  | 6, _, j, hj => midW (A := xO 2 fsL :: (encW w1 ++ (encW w1 ++ xQ 6 uF :: rpW 4))) (E := encW w1) (B := rpW 1 ++ xQ 2 kF :: (rpW 2 ++ tlL)) hj
  | 7, _, j, hj => midW (A := xO 2 fsL :: (encW w1 ++ (encW w1 ++ xQ 6 uF :: rpW 5))) (E := encW w1) (B := xQ 2 kF :: (rpW 2 ++ tlL)) hj
  | 8, _, j, hj => midW (A := xO 2 fsL :: (encW w1 ++ (encW w1 ++ xQ 6 uF :: (rpW 6 ++ [xQ 2 kF])))) (E := encW w1) (B := rpW 1 ++ tlL) hj
  | 9, _, j, hj => midW (A := xO 2 fsL :: (encW w1 ++ (encW w1 ++ xQ 6 uF :: (rpW 6 ++ xQ 2 kF :: rpW 1)))) (E := encW w1) (B := tlL) hj
  | q + 10, h, _, _ => absurd h (by omega)
/-- the same with nothing behind the ends of the two arrays -/
def hdN (s : LSt) : XH := [xO 2 [.ref 7, .ref 20, .ref 1, xi (s.1 0), xi (s.1 1), .ref 2, xi (s.1 2), .ref 3, xi (s.1 3), .ref 4, xi (s.1 4), .ref 5, .ref 6], xQ 6 (fun j => bif Nat.blt j 6 then some (32 + 13 * j) else none), xQ 2 (fun j => bif Nat.blt j 2 then some (109 + 13 * j) else none), xL 6 (s.2.1 0), xA 80 (s.2.1 1), xA 160 (s.2.1 2), xA 101 (s.2.1 3)]
def encN (s : LSt) : XH := hdN s ++ wsL s.2.2 0 10
theorem lenN137 (s : LSt) : (encN s).length = 137 := by rw [encN, List.length_append, wsL_len]; rfl
theorem encN_w (s : LSt) {q j : Nat} (hq : q < 10) (hj : j < 13) : (encN s)[7 + 13 * q + j]? = (encW (s.2.2 q))[j]? := by
  rw [encN, List.getElem?_append_right (by show 7 ≤ _; omega), show 7 + 13 * q + j - (hdN s).length = 13 * q + j by show 7 + 13 * q + j - 7 = _; omega, wsL_at _ _ _ _ _ hq hj, Nat.zero_add]
theorem encN_h (s : LSt) {k : Nat} (hk : k < 7) : (encN s)[k]? = (hdN s)[k]? := by
  rw [encN, List.getElem?_append_left (show k < 7 from hk)]
theorem wsL_cl (f : Nat → WS) : ∀ (n k j m : Nat), j + 13 * n ≤ m → xn_cl m j (wsL f k n)
  | 0, _, _, _, _ => trivial
  | n + 1, k, j, m, h => xn_cl_app (encW_cln _ (by omega)) (wsL_cl f n (k + 1) _ m (by rw [lenW13]; omega))
theorem cutF {n j d : Nat} {g : Nat → Nat} (e : (bif Nat.blt j n then some (g j) else none) = some d) : j < n ∧ g j = d := by
  cases h : Nat.blt j n with
  | false => rw [h] at e; cases e
  | true => rw [h] at e; exact ⟨xn_blt h, Option.some.inj e⟩
theorem encN_cl (s : LSt) {n : Nat} (h : 137 ≤ n) : xn_cl n 0 (encN s) := by
  refine xn_cl_mono (n := 137) (k := 0) (by omega) (xn_cl_app ⟨rfl, fun i d e => ?_, fun i d e => ?_, trivial, trivial, trivial, trivial, trivial⟩ (wsL_cl _ 10 0 7 137 (by omega)))
  · have := cutF (g := fun j => 32 + 13 * j) e
    have h2 : 32 + 13 * i = d := this.2
    omega
  · have := cutF (g := fun j => 109 + 13 * j) e
    have h2 : 109 + 13 * i = d := this.2
    omega
theorem hdN_u : ∀ i, i < 6 → (bif Nat.blt i 6 then some (32 + 13 * i) else none) = some (32 + 13 * i) := by decide +kernel
theorem hdN_k : ∀ i, i < 2 → (bif Nat.blt i 2 then some (109 + 13 * i) else none) = some (109 + 13 * i) := by decide +kernel
theorem uF_at : ∀ i, i < 6 → uF i = some (1 + 13 * i) := by decide +kernel
theorem kF_at : ∀ i, i < 2 → kF i = some (1 + 13 * i) := by decide +kernel
theorem piN_u : ∀ i, i < 6 → piN (1 + (32 + 13 * i)) = 27 + (1 + 13 * i) := by decide +kernel
theorem piN_k : ∀ i, i < 2 → piN (2 + (109 + 13 * i)) = 106 + (1 + 13 * i) := by decide +kernel
theorem natL_perm : ∀ j c, (encN s1)[j]? = some c → ∃ c', (natL fsL uF kF tlL)[piN j]? = some c' ∧ xn_sm piN j c (piN j) c' := by
  intro j c hc
  rcases encL_split j with h | ⟨q, i, hq, hi, rfl⟩ | h
  · rw [encN_h _ h] at hc
    match j, h, hc with
    | 0, _, hc => cases hc; exact ⟨_, rfl, fun D aC ρ σ a H q => q⟩
    | 1, _, hc => cases hc; exact ⟨_, rfl, xn_sm_q (fun i hi => ⟨_, _, hdN_u i hi, uF_at i hi, piN_u i hi⟩)⟩
    | 2, _, hc => cases hc; exact ⟨_, rfl, xn_sm_q (fun i hi => ⟨_, _, hdN_k i hi, kF_at i hi, piN_k i hi⟩)⟩
    | 3, _, hc => cases hc; exact ⟨_, rfl, fun D aC ρ σ a H q => q⟩
    | 4, _, hc => cases hc; exact ⟨_, rfl, fun D aC ρ σ a H q => q⟩
    | 5, _, hc => cases hc; exact ⟨_, rfl, fun D aC ρ σ a H q => q⟩
    | 6, _, hc => cases hc; exact ⟨_, rfl, fun D aC ρ σ a H q => q⟩
  · rw [encN_w _ hq hi] at hc
    refine ⟨c, by rw [piN_w q hq i hi, natL_w q hq i hi]; exact hc, xn_sm_ok ?_⟩
    intro aC ρ σ
    have h1 := encW_ref w1 hc (fun k => piN (7 + 13 * q + k)) (fun d hd => by
      show piN (7 + 13 * q + (i + d)) = piN (7 + 13 * q + i) + d
      rw [piN_w q hq _ hd, piN_w q hq i hi, Nat.add_assoc]) aC ρ σ
    rw [← xl_ok_add (7 + 13 * q) i c aC (fun k => ρ (piN k)) σ]
    exact h1
  · rw [List.getElem?_eq_none (by rw [lenN137]; omega)] at hc
    cases hc
set_option maxRecDepth 100000 in
set_option maxHeartbeats 4000000 in
theorem cX2_init_ok : xn_C mX2_init 136 30305 [.ref 0] [xO 2 dfX2] (fun h' => h' = encN s1 ∧ bdL s1) := by
  refine xn_con kX2_init [some (.ref 0), none] rfl (Nat.le_of_ble_eq_true rfl) ?_
  refine xn_aload_n iX2_init_0 rfl ?_
  refine xn_obj oX2_init_1 ?_
  refine xn_aload_n iX2_init_4 rfl ?_
  refine xn_new (rc := 135) (rs := 30289) nX2_init_5 (Nat.le_of_ble_eq_true rfl) (xn_fr_ok ⟨Nat.le_refl _, ⟨rfl, trivial⟩, rfl, rfl⟩) (fun _ _ => rfl) ?_
  refine xn_dup iX2_init_8 rfl ?_
  refine xn_callI (rc := 123) (rs := 27310) (h0 := [xO 2 dfX2]) (As := []) (rest := [.ref 1, .ref 0]) sX2_init_9 nkX1_init rfl rfl rfl (by decide) ⟨Nat.le_succ _, ⟨rfl, trivial⟩, rfl, rfl⟩ (Nat.le_of_ble_eq_true rfl) cX1_init_ok (fun h' e => ?_)
  obtain ⟨rfl, hbw⟩ := e
  refine xn_putf pX2_init_12 (hyq _) (Nat.zero_le _) rfl (Nat.le_of_ble_eq_true rfl) ?_
  show xn_W none 1 mX2_init 123 27310 15 _ _ (xO 2 [.ref 1, .null, .null, xi 0, xi 0, .null, xi 0, .null, xi 0, .null, xi 0, .null, .null] :: encW w1) _
  refine xn_aload_n iX2_init_15 rfl ?_
  refine xn_new (rc := 122) (rs := 27294) nX2_init_16 (Nat.le_of_ble_eq_true rfl) (xn_fr_ok ⟨Nat.le_refl _, ⟨rfl, encW_cln w1 (Nat.le_of_ble_eq_true rfl)⟩, rfl, rfl⟩) (fun _ _ => rfl) ?_
  refine xn_dup iX2_init_19 rfl ?_
  refine xn_callI (rc := 110) (rs := 24315) (h0 := xO 2 [.ref 1, .null, .null, xi 0, xi 0, .null, xi 0, .null, xi 0, .null, xi 0, .null, .null] :: encW w1) (As := []) (rest := [.ref 14, .ref 0]) sX2_init_20 nkX1_init rfl rfl rfl (by decide) ⟨Nat.le_succ _, ⟨rfl, encW_cln w1 (Nat.le_of_ble_eq_true rfl)⟩, rfl, rfl⟩ (Nat.le_of_ble_eq_true rfl) cX1_init_ok (fun h' e => ?_)
  obtain ⟨rfl, -⟩ := e
  refine xn_putf pX2_init_23 (hyq _) (Nat.zero_le _) rfl (Nat.le_of_ble_eq_true rfl) ?_
  show xn_W none 1 mX2_init 110 24315 26 _ _ (xO 2 [.ref 1, .ref 14, .null, xi 0, xi 0, .null, xi 0, .null, xi 0, .null, xi 0, .null, .null] :: (encW w1 ++ encW w1)) _
  refine xn_aload_n iX2_init_26 rfl ?_
  refine xn_bipush (iI 6) iX2_init_27 (by decide) ?_
  refine xn_newq (rc := 109) (rs := 24309) (N := 6) qX2_init_29 (by decide) (by decide) (by decide) (Nat.le_of_ble_eq_true rfl) ⟨Nat.le_refl _, natP1_cl _ (Nat.le_refl 27) rfl, rfl, rfl⟩ ?_
  refine xn_putf pX2_init_32 (hya _) (Nat.zero_le _) rfl (Nat.le_of_ble_eq_true rfl) ?_
  show xn_W none 1 mX2_init (31 + 13 * 6) (6339 + 2995 * 6) 35 _ _ ((xO 2 [.ref 1, .ref 14, .ref 27, xi 0, xi 0, .null, xi 0, .null, xi 0, .null, xi 0, .null, .null] :: (encW w1 ++ encW w1)) ++ xQ 6 (fun _ => none) :: []) _
  refine xn_iconst (iI 0) iX2_init_35 rfl ?_
  refine xn_istore_n iX2_init_36 rfl (by decide) ?_
  refine X2_init_l1 _ _ (natP1_len _) (natP1_cl _ (Nat.le_of_ble_eq_true rfl) rfl) rfl rfl 6 0 [] _ 31 6339 rfl rfl trivial (fun i d e => by cases e) ?_
  show xn_W none 1 mX2_init 31 6339 62 _ _ (xO 2 [.ref 1, .ref 14, .ref 27, xi 0, xi 0, .null, xi 0, .null, xi 0, .null, xi 0, .null, .null] :: (encW w1 ++ (encW w1 ++ xQ 6 uF :: rpW 6))) _
  refine xn_aload_n iX2_init_62 rfl ?_
  refine xn_iconst (iI 2) iX2_init_63 rfl ?_
  refine xn_newq (rc := 30) (rs := 6337) (N := 2) qX2_init_64 (by decide) (by decide) (by decide) (Nat.le_of_ble_eq_true rfl) ⟨Nat.le_refl _, natP2_cl _ (Nat.le_refl 106) rfl (fun i d e => by have := uF_lt i d e; show 27 + d < 106; omega), rfl, rfl⟩ ?_
  refine xn_putf pX2_init_67 (hya _) (Nat.zero_le _) rfl (Nat.le_of_ble_eq_true rfl) ?_
  show xn_W none 1 mX2_init (4 + 13 * 2) (347 + 2995 * 2) 70 _ _ ((xO 2 [.ref 1, .ref 14, .ref 27, xi 0, xi 0, .ref 106, xi 0, .null, xi 0, .null, xi 0, .null, .null] :: (encW w1 ++ (encW w1 ++ xQ 6 uF :: rpW 6))) ++ xQ 2 (fun _ => none) :: []) _
  refine xn_iconst (iI 0) iX2_init_70 rfl ?_
  refine xn_istore_n iX2_init_71 rfl (by decide) ?_
  refine X2_init_l2 _ _ (natP2_len _ _) (natP2_cl _ (Nat.le_of_ble_eq_true rfl) rfl (fun i d e => by have := uF_lt i d e; omega)) rfl rfl 2 0 [] _ 4 347 rfl rfl trivial (fun i d e => by cases e) ?_
  have cl : ∀ (fs : List Value) (t : XH) (n : Nat), 133 ≤ n → fs.all (xn_vl n 0) = true → xn_cl n 133 t → xn_cl n 0 (natL fs uF kF t) := fun fs t n hn h ht => natL_cl fs hn h (fun i d e => by have := uF_lt i d e; omega) (fun i d e => by have := kF_lt i d e; omega) ht
  show xn_W none 1 mX2_init 4 347 96 _ _ (natL [.ref 1, .ref 14, .ref 27, xi 0, xi 0, .ref 106, xi 0, .null, xi 0, .null, xi 0, .null, .null] uF kF []) _
  refine xn_aload_n iX2_init_96 rfl ?_
  refine xn_bipush (iI 6) iX2_init_97 (by decide) ?_
  refine xn_newa (rc := 3) (rs := 341) (t := 1) (a0 := (6, .inr (.inl (fun _ => lI 0)))) iX2_init_99 ac_l (fun _ => rfl) newl (by decide) (by decide) (by decide) (Nat.le_of_ble_eq_true rfl) (xn_fr_ok ⟨Nat.le_refl _, cl _ [] _ (Nat.le_refl 133) rfl trivial, rfl, rfl⟩) (fun _ _ => rfl) ?_
  refine xn_putf pX2_init_101 (hya _) (Nat.zero_le _) rfl (Nat.le_of_ble_eq_true rfl) ?_
  show xn_W none 1 mX2_init 3 341 104 _ _ (natL [.ref 1, .ref 14, .ref 27, xi 0, xi 0, .ref 106, xi 0, .ref 133, xi 0, .null, xi 0, .null, .null] uF kF [xL 6 (fun _ => 0)]) _
  refine xn_aload_n iX2_init_104 rfl ?_
  refine xn_bipush (iI 80) iX2_init_105 (by decide) ?_
  refine xn_newa (rc := 2) (rs := 261) (t := 0) (a0 := (80, .inl (fun _ => iI 0))) iX2_init_107 ac_i (fun _ => rfl) newi (by decide) (by decide) (by decide) (Nat.le_of_ble_eq_true rfl) (xn_fr_ok ⟨Nat.le_refl _, cl _ [xL 6 (fun _ => 0)] 134 (Nat.le_of_ble_eq_true rfl) rfl ⟨trivial, trivial⟩, rfl, rfl⟩) (fun _ _ => rfl) ?_
  refine xn_putf pX2_init_109 (hya _) (Nat.zero_le _) rfl (Nat.le_of_ble_eq_true rfl) ?_
  show xn_W none 1 mX2_init 2 261 112 _ _ (natL [.ref 1, .ref 14, .ref 27, xi 0, xi 0, .ref 106, xi 0, .ref 133, xi 0, .ref 134, xi 0, .null, .null] uF kF [xL 6 (fun _ => 0), xA 80 (fun _ => 0)]) _
  refine xn_aload_n iX2_init_112 rfl ?_
  refine xn_sipush (iI 160) iX2_init_113 (by decide) ?_
  refine xn_newa (rc := 1) (rs := 101) (t := 0) (a0 := (160, .inl (fun _ => iI 0))) iX2_init_116 ac_i (fun _ => rfl) newi (by decide) (by decide) (by decide) (Nat.le_of_ble_eq_true rfl) (xn_fr_ok ⟨Nat.le_refl _, cl _ [xL 6 (fun _ => 0), xA 80 (fun _ => 0)] 135 (Nat.le_of_ble_eq_true rfl) rfl ⟨trivial, trivial, trivial⟩, rfl, rfl⟩) (fun _ _ => rfl) ?_
  refine xn_putf pX2_init_118 (hya _) (Nat.zero_le _) rfl (Nat.le_of_ble_eq_true rfl) ?_
  show xn_W none 1 mX2_init 1 101 121 _ _ (natL [.ref 1, .ref 14, .ref 27, xi 0, xi 0, .ref 106, xi 0, .ref 133, xi 0, .ref 134, xi 0, .ref 135, .null] uF kF [xL 6 (fun _ => 0), xA 80 (fun _ => 0), xA 160 (fun _ => 0)]) _
  refine xn_aload_n iX2_init_121 rfl ?_
  refine xn_bipush (iI 101) iX2_init_122 (by decide) ?_
  refine xn_newa (rc := 0) (rs := 0) (t := 0) (a0 := (101, .inl (fun _ => iI 0))) iX2_init_124 ac_i (fun _ => rfl) newi (by decide) (by decide) (by decide) (Nat.le_of_ble_eq_true rfl) (xn_fr_ok ⟨Nat.le_refl _, cl _ [xL 6 (fun _ => 0), xA 80 (fun _ => 0), xA 160 (fun _ => 0)] 136 (Nat.le_of_ble_eq_true rfl) rfl ⟨trivial, trivial, trivial, trivial⟩, rfl, rfl⟩) (fun _ _ => rfl) ?_
  refine xn_putf pX2_init_126 (hya _) (Nat.zero_le _) rfl (Nat.le_of_ble_eq_true rfl) ?_
  show xn_W none 1 mX2_init 0 0 129 _ _ (natL fsL uF kF tlL) _
  refine xn_perm piN (hl := encN s1) (fun i j hi hj e => ?_) natL_perm (fun i hi => ?_) ?_
  · rw [lenN137] at hi hj
    rw [← piN_inv i hi, ← piN_inv j hj, e]
  · rw [show i = 0 by omega]
    rfl
  · exact xn_return iX2_init_129 rfl ⟨rfl, rfl, fun _ => xB_z, fun _ _ => xB_z, fun _ => hbw⟩
end
-- 91.cz
section
/-! ===== the model: its constructor ===== -/
def m0 : MS := (fun _ => 0, fun _ _ => 0)
def m1 : MS := mStarts m0 0 1 10 5 0
theorem m0_b : bdM m0 := ⟨fun _ => xB_z, fun _ _ => xB_z⟩
set_option maxRecDepth 100000 in
set_option maxHeartbeats 4000000 in
theorem cX3_init_ok : xn_C mX3_init 12 31669 [.ref 0] [xO 3 dfX3] (fun h' => h' = encM m1 ∧ bdM m1) := by
  refine xn_con kX3_init [some (.ref 0)] rfl (Nat.le_of_ble_eq_true rfl) ?_
  refine xn_aload_n iX3_init_0 rfl ?_
  refine xn_obj oX3_init_1 ?_
  refine xn_aload_n iX3_init_4 rfl ?_
  refine xn_bipush (iI 16) iX3_init_5 (by decide) ?_
  refine xn_newa (rc := 11) (rs := 31653) (t := 1) (a0 := (16, .inr (.inl (fun _ => lI 0)))) iX3_init_7 ac_l (fun _ => rfl) newl (by decide) (by decide) (by decide) (Nat.le_of_ble_eq_true rfl) (xn_fr_ok ⟨Nat.le_refl _, ⟨rfl, trivial⟩, rfl, rfl⟩) (fun _ _ => rfl) ?_
  refine xn_putf pX3_init_9 (hya _) (Nat.zero_le _) rfl (Nat.le_of_ble_eq_true rfl) ?_
  show xn_W none 1 mX3_init 11 31653 12 _ _ [xO 3 [xi 0, xi 0, .ref 1, .null, xi 0, xi 0, xi 0, .null, xi 0, .null, xi 0, xi 0, xi 0, .null, .null, .null, .null, .null, .null, xi 0, .null, xi 0, .null], xL 16 (fun _ => 0)] _
  refine xn_aload_n iX3_init_12 rfl ?_
  refine xn_bipush (iI 80) iX3_init_13 (by decide) ?_
  refine xn_newa (rc := 10) (rs := 31573) (t := 0) (a0 := (80, .inl (fun _ => iI 0))) iX3_init_15 ac_i (fun _ => rfl) newi (by decide) (by decide) (by decide) (Nat.le_of_ble_eq_true rfl) (xn_fr_ok ⟨Nat.le_refl _, ⟨rfl, trivial, trivial⟩, rfl, rfl⟩) (fun _ _ => rfl) ?_
  refine xn_putf pX3_init_17 (hya _) (Nat.zero_le _) rfl (Nat.le_of_ble_eq_true rfl) ?_
  show xn_W none 1 mX3_init 10 31573 20 _ _ [xO 3 [xi 0, xi 0, .ref 1, .ref 2, xi 0, xi 0, xi 0, .null, xi 0, .null, xi 0, xi 0, xi 0, .null, .null, .null, .null, .null, .null, xi 0, .null, xi 0, .null], xL 16 (fun _ => 0), xA 80 (fun _ => 0)] _
  refine xn_aload_n iX3_init_20 rfl ?_
  refine xn_sipush (iI 30844) iX3_init_21 (by decide) ?_
  refine xn_newa (rc := 9) (rs := 729) (t := 0) (a0 := (30844, .inl (fun _ => iI 0))) iX3_init_24 ac_i (fun _ => rfl) newi (by decide) (by decide) (by decide) (Nat.le_of_ble_eq_true rfl) (xn_fr_ok ⟨Nat.le_refl _, ⟨rfl, trivial, trivial, trivial⟩, rfl, rfl⟩) (fun _ _ => rfl) ?_
  refine xn_putf pX3_init_26 (hya _) (Nat.zero_le _) rfl (Nat.le_of_ble_eq_true rfl) ?_
  show xn_W none 1 mX3_init 9 729 29 _ _ [xO 3 [xi 0, xi 0, .ref 1, .ref 2, xi 0, xi 0, xi 0, .ref 3, xi 0, .null, xi 0, xi 0, xi 0, .null, .null, .null, .null, .null, .null, xi 0, .null, xi 0, .null], xL 16 (fun _ => 0), xA 80 (fun _ => 0), xA 30844 (fun _ => 0)] _
  refine xn_aload_n iX3_init_29 rfl ?_
  refine xn_bipush (iI 7) iX3_init_30 (by decide) ?_
  refine xn_newa (rc := 8) (rs := 722) (t := 0) (a0 := (7, .inl (fun _ => iI 0))) iX3_init_32 ac_i (fun _ => rfl) newi (by decide) (by decide) (by decide) (Nat.le_of_ble_eq_true rfl) (xn_fr_ok ⟨Nat.le_refl _, ⟨rfl, trivial, trivial, trivial, trivial⟩, rfl, rfl⟩) (fun _ _ => rfl) ?_
  refine xn_putf pX3_init_34 (hya _) (Nat.zero_le _) rfl (Nat.le_of_ble_eq_true rfl) ?_
  show xn_W none 1 mX3_init 8 722 37 _ _ [xO 3 [xi 0, xi 0, .ref 1, .ref 2, xi 0, xi 0, xi 0, .ref 3, xi 0, .ref 4, xi 0, xi 0, xi 0, .null, .null, .null, .null, .null, .null, xi 0, .null, xi 0, .null], xL 16 (fun _ => 0), xA 80 (fun _ => 0), xA 30844 (fun _ => 0), xA 7 (fun _ => 0)] _
  refine xn_aload_n iX3_init_37 rfl ?_
  refine xn_bipush (iI 80) iX3_init_38 (by decide) ?_
  refine xn_newa (rc := 7) (rs := 642) (t := 0) (a0 := (80, .inl (fun _ => iI 0))) iX3_init_40 ac_i (fun _ => rfl) newi (by decide) (by decide) (by decide) (Nat.le_of_ble_eq_true rfl) (xn_fr_ok ⟨Nat.le_refl _, ⟨rfl, trivial, trivial, trivial, trivial, trivial⟩, rfl, rfl⟩) (fun _ _ => rfl) ?_
  refine xn_putf pX3_init_42 (hya _) (Nat.zero_le _) rfl (Nat.le_of_ble_eq_true rfl) ?_
  show xn_W none 1 mX3_init 7 642 45 _ _ [xO 3 [xi 0, xi 0, .ref 1, .ref 2, xi 0, xi 0, xi 0, .ref 3, xi 0, .ref 4, xi 0, xi 0, xi 0, .ref 5, .null, .null, .null, .null, .null, xi 0, .null, xi 0, .null], xL 16 (fun _ => 0), xA 80 (fun _ => 0), xA 30844 (fun _ => 0), xA 7 (fun _ => 0), xA 80 (fun _ => 0)] _
  refine xn_aload_n iX3_init_45 rfl ?_
  refine xn_bipush (iI 80) iX3_init_46 (by decide) ?_
  refine xn_newa (rc := 6) (rs := 562) (t := 0) (a0 := (80, .inl (fun _ => iI 0))) iX3_init_48 ac_i (fun _ => rfl) newi (by decide) (by decide) (by decide) (Nat.le_of_ble_eq_true rfl) (xn_fr_ok ⟨Nat.le_refl _, ⟨rfl, trivial, trivial, trivial, trivial, trivial, trivial⟩, rfl, rfl⟩) (fun _ _ => rfl) ?_
  refine xn_putf pX3_init_50 (hya _) (Nat.zero_le _) rfl (Nat.le_of_ble_eq_true rfl) ?_
  show xn_W none 1 mX3_init 6 562 53 _ _ [xO 3 [xi 0, xi 0, .ref 1, .ref 2, xi 0, xi 0, xi 0, .ref 3, xi 0, .ref 4, xi 0, xi 0, xi 0, .ref 5, .ref 6, .null, .null, .null, .null, xi 0, .null, xi 0, .null], xL 16 (fun _ => 0), xA 80 (fun _ => 0), xA 30844 (fun _ => 0), xA 7 (fun _ => 0), xA 80 (fun _ => 0), xA 80 (fun _ => 0)] _
  refine xn_aload_n iX3_init_53 rfl ?_
  refine xn_bipush (iI 80) iX3_init_54 (by decide) ?_
  refine xn_newa (rc := 5) (rs := 482) (t := 0) (a0 := (80, .inl (fun _ => iI 0))) iX3_init_56 ac_i (fun _ => rfl) newi (by decide) (by decide) (by decide) (Nat.le_of_ble_eq_true rfl) (xn_fr_ok ⟨Nat.le_refl _, ⟨rfl, trivial, trivial, trivial, trivial, trivial, trivial, trivial⟩, rfl, rfl⟩) (fun _ _ => rfl) ?_
  refine xn_putf pX3_init_58 (hya _) (Nat.zero_le _) rfl (Nat.le_of_ble_eq_true rfl) ?_
  show xn_W none 1 mX3_init 5 482 61 _ _ [xO 3 [xi 0, xi 0, .ref 1, .ref 2, xi 0, xi 0, xi 0, .ref 3, xi 0, .ref 4, xi 0, xi 0, xi 0, .ref 5, .ref 6, .ref 7, .null, .null, .null, xi 0, .null, xi 0, .null], xL 16 (fun _ => 0), xA 80 (fun _ => 0), xA 30844 (fun _ => 0), xA 7 (fun _ => 0), xA 80 (fun _ => 0), xA 80 (fun _ => 0), xA 80 (fun _ => 0)] _
  refine xn_aload_n iX3_init_61 rfl ?_
  refine xn_bipush (iI 80) iX3_init_62 (by decide) ?_
  refine xn_newa (rc := 4) (rs := 402) (t := 0) (a0 := (80, .inl (fun _ => iI 0))) iX3_init_64 ac_i (fun _ => rfl) newi (by decide) (by decide) (by decide) (Nat.le_of_ble_eq_true rfl) (xn_fr_ok ⟨Nat.le_refl _, ⟨rfl, trivial, trivial, trivial, trivial, trivial, trivial, trivial, trivial⟩, rfl, rfl⟩) (fun _ _ => rfl) ?_
  refine xn_putf pX3_init_66 (hya _) (Nat.zero_le _) rfl (Nat.le_of_ble_eq_true rfl) ?_
  show xn_W none 1 mX3_init 4 402 69 _ _ [xO 3 [xi 0, xi 0, .ref 1, .ref 2, xi 0, xi 0, xi 0, .ref 3, xi 0, .ref 4, xi 0, xi 0, xi 0, .ref 5, .ref 6, .ref 7, .ref 8, .null, .null, xi 0, .null, xi 0, .null], xL 16 (fun _ => 0), xA 80 (fun _ => 0), xA 30844 (fun _ => 0), xA 7 (fun _ => 0), xA 80 (fun _ => 0), xA 80 (fun _ => 0), xA 80 (fun _ => 0), xA 80 (fun _ => 0)] _
  refine xn_aload_n iX3_init_69 rfl ?_
  refine xn_sipush (iI 160) iX3_init_70 (by decide) ?_
  refine xn_newa (rc := 3) (rs := 242) (t := 0) (a0 := (160, .inl (fun _ => iI 0))) iX3_init_73 ac_i (fun _ => rfl) newi (by decide) (by decide) (by decide) (Nat.le_of_ble_eq_true rfl) (xn_fr_ok ⟨Nat.le_refl _, ⟨rfl, trivial, trivial, trivial, trivial, trivial, trivial, trivial, trivial, trivial⟩, rfl, rfl⟩) (fun _ _ => rfl) ?_
  refine xn_putf pX3_init_75 (hya _) (Nat.zero_le _) rfl (Nat.le_of_ble_eq_true rfl) ?_
  show xn_W none 1 mX3_init 3 242 78 _ _ [xO 3 [xi 0, xi 0, .ref 1, .ref 2, xi 0, xi 0, xi 0, .ref 3, xi 0, .ref 4, xi 0, xi 0, xi 0, .ref 5, .ref 6, .ref 7, .ref 8, .ref 9, .null, xi 0, .null, xi 0, .null], xL 16 (fun _ => 0), xA 80 (fun _ => 0), xA 30844 (fun _ => 0), xA 7 (fun _ => 0), xA 80 (fun _ => 0), xA 80 (fun _ => 0), xA 80 (fun _ => 0), xA 80 (fun _ => 0), xA 160 (fun _ => 0)] _
  refine xn_aload_n iX3_init_78 rfl ?_
  refine xn_sipush (iI 160) iX3_init_79 (by decide) ?_
  refine xn_newa (rc := 2) (rs := 82) (t := 0) (a0 := (160, .inl (fun _ => iI 0))) iX3_init_82 ac_i (fun _ => rfl) newi (by decide) (by decide) (by decide) (Nat.le_of_ble_eq_true rfl) (xn_fr_ok ⟨Nat.le_refl _, ⟨rfl, trivial, trivial, trivial, trivial, trivial, trivial, trivial, trivial, trivial, trivial⟩, rfl, rfl⟩) (fun _ _ => rfl) ?_
  refine xn_putf pX3_init_84 (hya _) (Nat.zero_le _) rfl (Nat.le_of_ble_eq_true rfl) ?_
  show xn_W none 1 mX3_init 2 82 87 _ _ [xO 3 [xi 0, xi 0, .ref 1, .ref 2, xi 0, xi 0, xi 0, .ref 3, xi 0, .ref 4, xi 0, xi 0, xi 0, .ref 5, .ref 6, .ref 7, .ref 8, .ref 9, .ref 10, xi 0, .null, xi 0, .null], xL 16 (fun _ => 0), xA 80 (fun _ => 0), xA 30844 (fun _ => 0), xA 7 (fun _ => 0), xA 80 (fun _ => 0), xA 80 (fun _ => 0), xA 80 (fun _ => 0), xA 80 (fun _ => 0), xA 160 (fun _ => 0), xA 160 (fun _ => 0)] _
  refine xn_aload_n iX3_init_87 rfl ?_
  refine xn_bipush (iI 80) iX3_init_88 (by decide) ?_
  refine xn_newa (rc := 1) (rs := 2) (t := 0) (a0 := (80, .inl (fun _ => iI 0))) iX3_init_90 ac_i (fun _ => rfl) newi (by decide) (by decide) (by decide) (Nat.le_of_ble_eq_true rfl) (xn_fr_ok ⟨Nat.le_refl _, ⟨rfl, trivial, trivial, trivial, trivial, trivial, trivial, trivial, trivial, trivial, trivial, trivial⟩, rfl, rfl⟩) (fun _ _ => rfl) ?_
  refine xn_putf pX3_init_92 (hya _) (Nat.zero_le _) rfl (Nat.le_of_ble_eq_true rfl) ?_
  show xn_W none 1 mX3_init 1 2 95 _ _ [xO 3 [xi 0, xi 0, .ref 1, .ref 2, xi 0, xi 0, xi 0, .ref 3, xi 0, .ref 4, xi 0, xi 0, xi 0, .ref 5, .ref 6, .ref 7, .ref 8, .ref 9, .ref 10, xi 0, .ref 11, xi 0, .null], xL 16 (fun _ => 0), xA 80 (fun _ => 0), xA 30844 (fun _ => 0), xA 7 (fun _ => 0), xA 80 (fun _ => 0), xA 80 (fun _ => 0), xA 80 (fun _ => 0), xA 80 (fun _ => 0), xA 160 (fun _ => 0), xA 160 (fun _ => 0), xA 80 (fun _ => 0)] _
  refine xn_aload_n iX3_init_95 rfl ?_
  refine xn_iconst (iI 2) iX3_init_96 rfl ?_
  refine xn_newa (rc := 0) (rs := 0) (t := 2) (a0 := (2, .inl (fun _ => iI 0))) iX3_init_97 ac_z (fun _ => rfl) newz (by decide) (by decide) (by decide) (Nat.le_of_ble_eq_true rfl) (xn_fr_ok ⟨Nat.le_refl _, ⟨rfl, trivial, trivial, trivial, trivial, trivial, trivial, trivial, trivial, trivial, trivial, trivial, trivial⟩, rfl, rfl⟩) (fun _ _ => rfl) ?_
  refine xn_putf pX3_init_99 (hya _) (Nat.zero_le _) rfl (Nat.le_of_ble_eq_true rfl) ?_
  show xn_W none 1 mX3_init 0 0 102 _ _ [xO 3 [xi 0, xi 0, .ref 1, .ref 2, xi 0, xi 0, xi 0, .ref 3, xi 0, .ref 4, xi 0, xi 0, xi 0, .ref 5, .ref 6, .ref 7, .ref 8, .ref 9, .ref 10, xi 0, .ref 11, xi 0, .ref 12], xL 16 (fun _ => 0), xA 80 (fun _ => 0), xA 30844 (fun _ => 0), xA 7 (fun _ => 0), xA 80 (fun _ => 0), xA 80 (fun _ => 0), xA 80 (fun _ => 0), xA 80 (fun _ => 0), xA 160 (fun _ => 0), xA 160 (fun _ => 0), xA 80 (fun _ => 0), xZ 2 (fun _ => 0)] _
  refine xn_aload_n iX3_init_102 rfl ?_
  refine xn_iconst (iI 0) iX3_init_103 rfl ?_
  refine xn_iconst (iI 1) iX3_init_104 rfl ?_
  refine xn_bipush (iI 10) iX3_init_105 (by decide) ?_
  refine xn_iconst (iI 5) iX3_init_107 rfl ?_
  refine xn_iconst (iI 0) iX3_init_108 rfl ?_
  refine xn_callR (enc := encM) (bd := bdM) [] [] (as := [pI 0, pI 1, pI 10, pI 5, pI 0]) (s := m0) (K := fun v s' => v = [] ∧ s' = m1) (rest := []) iX3_init_109 vX3_starts mX3_starts_ok mcl lenM recM rfl rfl (by decide) m0_b ⟨⟨⟨by decide, by decide⟩, ⟨by decide, by decide⟩, ⟨by decide, by decide⟩, ⟨by decide, by decide⟩, ⟨by decide, by decide⟩⟩, rfl, rfl⟩ (fun v s' e hb => ?_)
  obtain ⟨rfl, rfl⟩ := e
  refine xn_return iX3_init_112 rfl ⟨rfl, ?_, hb⟩
  rw [List.nil_append, List.append_nil]
end
-- 92.ex
section
/-! ===== BEGIN words of one list among another's, by their places ===== -/
theorem goodIn_r {big : List Cond} (ws : List Cond) (ps : List Nat) (hp : ws = ps.filterMap (fun i => big[i]?)) (h : ws.all goodWord = true) : GoodIn big ws := by
  intro w hw
  have h1 := List.all_eq_true.mp h w hw
  rw [hp] at hw
  obtain ⟨i, -, hi⟩ := List.mem_filterMap.mp hw
  have hm : w ∈ big := by first | exact List.mem_of_getElem? hi | exact List.getElem?_mem hi
  exact ⟨hm, good_of_word h1⟩
theorem goodIn_app {big a b : List Cond} (ha : GoodIn big a) (hb : GoodIn big b) : GoodIn big (a ++ b) := fun w h => (List.mem_append.mp h).elim (ha w) (hb w)
theorem goodIn_ca {big a b : List Cond} {c : Cond} (ha : GoodIn big (c :: a)) (hb : GoodIn big b) : GoodIn big (c :: (a ++ b)) := fun w h => (List.mem_cons.mp h).elim (fun e => ha w (List.mem_cons.mpr (Or.inl e))) (fun h => (List.mem_append.mp h).elim (fun h => ha w (List.mem_cons.mpr (Or.inr h))) (hb w))
theorem goodIn_sub {big ws : List Cond} (hm : ∀ w ∈ ws, w ∈ big) (h : ws.all goodWord = true) : GoodIn big ws := fun w hw => ⟨hm w hw, good_of_word (List.all_eq_true.mp h w hw)⟩
/-! ===== END ===== -/
/-! ===== BEGIN exceptions that leave a method, and their catching by the caller (launches without stack traces) ===== -/
section VXA
/-! The laws vx_back, vx_callV, vx_callS, vx_callSW, vx_throw0, vx_throwS follow proofs of the library, with one case more: JvmDerived/Free/Laws.lean (Back.of_free), Shelf42/LK1.lean (callV, callS), Shelf/KitTraced.lean (throwNew0V, throwNewS). -/
/-- where a method has thrown q: the class by its name, the cell, what was written, the world -/
def vx_T (XC : String → State → State → Prop) (st : State) (q : Addr) (t : State) (mc ms : Nat) (free : Addr → Prop) : Prop :=
  ∃ (E : String) (ce : Cell) (L : List Loc), XC E st t ∧ t.heap[q]? = some ce ∧ ce.vm = .none ∧ st.vm.findClass E = some ce.cls ∧ st.WarmedH t.vm ∧ st.sameButNew ({ t with vm := st.vm } : State) L mc ms ∧ ∀ z ∈ L, free z.base
def vx_Q (Qc : Array Value → State → Outcome → State → Prop) (XC : String → State → State → Prop) (mc ms : Nat) (free : Addr → Prop) : Array Value → State → Outcome → State → Prop := fun a st o t =>
  (Qc a st o t ∧ ∃ L, FrameEnd st o t L mc ms ∧ ∀ q ∈ L, free q.base) ∨ ∃ q, o = .threw q ∧ vx_T XC st q t mc ms free
/-- a callee that returns or throws -/
def vx_Met (l : Launch) (y : MethodName) (ws : List Cond) (rm : Room) (Pc : Array Value → State → Prop) (Qc : Array Value → State → Outcome → State → Prop) (XC : String → State → State → Prop) (mc ms : Nat) (free : Addr → Prop) : Prop :=
  MetFree l y (headSpec ws rm) Pc (fun _ _ _ _ _ => True) (vx_Q Qc XC mc ms free)
def vx_Post (XC : String → State → State → Prop) (mc ms : Nat) (free : Addr → Prop) : Pt → Array Value → Addr → Pt → Prop := fun A a q B =>
  ∃ (g : JFrame) (mk : MethodId) (t : State) (L : List Loc) (E : String) (ce : Cell), B.U.heap = t.heap ∧ B.U.vm = t.vm ∧ XC E (A.U.calling g mk a) t ∧ t.heap[q]? = some ce ∧ ce.vm = .none ∧ A.U.vm.findClass E = some ce.cls ∧ B.locs = A.locs ++ L ∧ (∀ z ∈ L, free z.base) ∧ B.cells = A.cells + mc ∧ B.slots = A.slots + ms
def vx_Back (l : Launch) (R : Room) (p : Program) (e : Env) (below : List Frame) (s : State) (sargs : Array Value) (y : MethodName) (len W9 : Nat)
    (Pre : Pt → Array Value → Prop) (Post : Pt → Array Value → Option Value → Pt → Prop) (PostX : Pt → Array Value → Addr → Pt → Prop) : Prop :=
  ∀ (m : MethodId) (meth : Method) (c : Code) (A : Pt) (g : JFrame) (ig : Instr) (mk : MethodId) (a : Array Value),
    Stand p l e R s m sargs below meth c A.U A.locs A.cells A.slots → g.method = m → g.locals.size = c.maxLocals → decode c.code g.pc = .ok (ig, len) →
    2 * g.monitorRoom + (g.stack.map fun v => v.category).sum ≤ W9 → A.U.methodNamed? y = some mk → Pre A a →
    (∃ (v : Option Value) (B : Pt), Stand p l e R s m sargs below meth c B.U B.locs B.cells B.slots ∧ Post A a v B ∧
      Steps p.tables e below (doInvoke e (A.U.setTop g) [] mk a).1 (B.U.setTop { g with pc := g.pc + len, stack := v.toList ++ g.stack })) ∨
    (∃ (q : Addr) (B : Pt), Stand p l e R s m sargs below meth c B.U B.locs B.cells B.slots ∧ PostX A a q B ∧
      Steps p.tables e below (doInvoke e (A.U.setTop g) [] mk a).1 ((B.U.setTop g).pushFrame (.throwing q)))
section Payer
variable {l : Launch} {R : Room} {p : Program} {e : Env} {below : List Frame} {s : State} {sargs : Array Value} {y : MethodName} {len W9 : Nat}
theorem vx_back {ws : List Cond} {rm : Room} {Pc : Array Value → State → Prop} {Qc : Array Value → State → Outcome → State → Prop} {XC : String → State → State → Prop} {mc ms : Nat} {free : Addr → Prop} {bytes : ByteArray} {maxL : Nat} {ret : Option FieldType}
    (hM : vx_Met l y ws rm Pc Qc XC mc ms free) (hblind : FrameBlind Pc) (hrc : rm.cells = mc) (hrs : rm.slots = ms)
    (hframes : rm.frames + 1 ≤ R.frames) (hlocals : W9 + (maxL + 11) + rm.locals ≤ R.locals)
    (hws : ∀ w ∈ ws, ∀ a' U, s.WarmedH U.vm → w.before a' U = true) (hcode : Cond.code y bytes maxL ret ∈ ws) (hinit : ∀ a' U, s.WarmedH U.vm → (Cond.initialized y.cls).before a' U = true) :
    vx_Back l R p e below s sargs y len W9 (PreOf R mc ms Pc) (PostOf Qc mc ms free) (vx_Post XC mc ms free) := by
  intro m meth c A g ig mk a X hg hsize hdg hW hn hp
  have h1 : (headSpec ws rm).pre.before a A.U = true := atoms_intro fun w hw => hws w hw _ _ X.warmed
  have h2 : (Cond.code y bytes maxL ret).before a A.U = true := hws _ hcode _ _ X.warmed
  have h3 : (Cond.initialized y.cls).before a A.U = true := hinit _ _ X.warmed
  have h4 : A.cells + (headSpec ws rm).room.cells ≤ R.cells := by rw [show (headSpec ws rm).room.cells = mc from hrc]; exact hp.1
  have h5 : A.slots + (headSpec ws rm).room.slots ≤ R.slots := by rw [show (headSpec ws rm).room.slots = ms from hrs]; exact hp.2.1
  have hPc : Pc a (A.U.calling g mk a) := hblind _ _ _ _ hp.2.2
  obtain ⟨U, Ls, c0, s0⟩ := A
  dsimp only [Pt.U, Pt.locs, Pt.cells, Pt.slots] at h1 h2 h3 h4 h5 X hn hPc ⊢
  obtain ⟨methY, cY, hmY, hcY, -, hlY, -, -, -, -⟩ := Cond.code_spec hn h2
  obtain ⟨kY, hkY, -⟩ := className_of_methodNamed hn
  have hinitY : kY.init = .initialized := Cond.initialized_spec (findClass_of_methodNamed hn) hkY h3
  have h : At U g.method c below := by rw [hg]; exact X.here
  have hlocals9 : W9 + (maxL + 11) + (headSpec ws rm).room.locals ≤ R.locals := hlocals
  have happ : (headSpec ws rm).appliesLoose y e.platform (U.calling g mk a) = true :=
    Spec.appliesLoose_calling (g := g) h hdg hn hkY hinitY
      (X.room_calling (g := g) (R' := (headSpec ws rm).room) hsize hmY hcY hframes (by rw [hlY]; omega) h4 h5) h1
  obtain ⟨mid, hmid⟩ := h.above
  have hfr : (U.setTop g).frames = (.java g :: mid) ++ below := by rw [State.frames_setTop' g h.top, hmid]; rfl
  obtain ⟨o, s₂, hsteps, -, hend, hq⟩ := Steps.callFree hM p X.admits X.cas X.clock (acts := []) hfr happ hPc trivial
  have hq' : vx_Q Qc XC mc ms free a (U.calling g mk a) o s₂ := hq
  rw [State.frames_setTop' g h.top] at hend
  obtain ⟨g₀, hg0⟩ := Option.isSome_iff_exists.mp h.top
  obtain ⟨r, hr⟩ := State.topJava?_eq_some.mp hg0
  have hr' : (({ U with heap := s₂.heap, slotsUsed := s₂.slotsUsed } : State).setVm s₂.vm).frames = .java g₀ :: r := hr
  rcases hq' with ⟨hqc, L, hfe, hL⟩ | ⟨q, rfl, E, ce, L, hx, hce, hcv, hcl, hW₂, hsm, hL⟩
  · obtain ⟨⟨v, rfl⟩, hW₂, e2, q2, q3, q4, q5, q6⟩ := id hfe
    have e3 : s₂ = ({ (U.calling g mk a).setFrames s₂.frames with heap := s₂.heap, slotsUsed := s₂.slotsUsed } : State).setVm s₂.vm := by
      have : s₂ = ({ s₂ with vm := (U.calling g mk a).vm } : State).setVm s₂.vm := rfl
      rw [e2] at this
      exact this
    obtain ⟨c₂, i₂, len₂, hc₂, hd₂, hf₂⟩ := hend
    have hW' : U.WarmedH s₂.vm := hW₂
    have hcc : c₂ = c := by
      have h1 : s₂.code? g.method = U.code? g.method := by
        rw [State.code?_eq, State.code?_eq, hW'.alike.method?]
      exact Option.some.inj (hc₂.symm.trans (h1.trans h.code))
    subst hcc
    have hlen : len₂ = len := by rw [hdg] at hd₂; cases hd₂; rfl
    subst hlen
    have hs₂ : s₂ = (({ U with heap := s₂.heap, slotsUsed := s₂.slotsUsed } : State).setVm s₂.vm).setTop { g with pc := g.pc + len₂, stack := v.toList ++ g.stack } := by
      refine e3.trans ?_
      rw [hf₂, State.calling_eq h.top, State.setFrames_setFrames, State.setTop_of_frames _ hr', hr]
      rfl
    have hsame : U.sameButNew ({ U with heap := s₂.heap, slotsUsed := s₂.slotsUsed } : State) L mc ms := by
      refine ⟨?_, q2, q3, q4, q5, q6⟩
      obtain ⟨t, ht, -⟩ := State.frames_cons hr
      show ({ U with heap := s₂.heap, slotsUsed := s₂.slotsUsed } : State) = { U.setFrames U.frames with heap := s₂.heap, slotsUsed := s₂.slotsUsed }
      rw [State.setFrames_self ht]
    subst hg
    refine Or.inl ⟨v, ⟨(({ U with heap := s₂.heap, slotsUsed := s₂.slotsUsed } : State).setVm s₂.vm), Ls ++ L, c0 + mc, s0 + ms⟩,
      ⟨X.admits, X.cas, X.clock, X.frames, X.room, X.hears, X.method, X.code, (X.here.setHeapUsed s₂.heap s₂.slotsUsed).setVm hW'.alike, X.tail, State.WarmedH.trans X.warmed hW', X.limits, X.bytes, X.same.trans (hsame.setVm s.vm)⟩,
      ⟨g, mk, s₂, L, rfl, rfl, hqc, rfl, hL, rfl, rfl⟩, ?_⟩
    show Steps p.tables e below _ ((({ U with heap := s₂.heap, slotsUsed := s₂.slotsUsed } : State).setVm s₂.vm).setTop { g with pc := g.pc + len₂, stack := v.toList ++ g.stack })
    rw [← hs₂]
    exact hsteps
  · obtain ⟨e2, q2, q3, q4, q5, q6⟩ := id hsm
    have e3 : s₂ = ({ (U.calling g mk a).setFrames s₂.frames with heap := s₂.heap, slotsUsed := s₂.slotsUsed } : State).setVm s₂.vm := by
      have : s₂ = ({ s₂ with vm := (U.calling g mk a).vm } : State).setVm s₂.vm := rfl
      rw [e2] at this
      exact this
    have hf₂ : s₂.frames = .throwing q :: .java g :: U.frames.tail := hend
    have hW' : U.WarmedH s₂.vm := hW₂
    have hs₂ : s₂ = ((({ U with heap := s₂.heap, slotsUsed := s₂.slotsUsed } : State).setVm s₂.vm).setTop g).pushFrame (.throwing q) := by
      refine e3.trans ?_
      rw [hf₂, State.calling_eq h.top, State.setFrames_setFrames, State.pushFrame, State.frames_setTop _ hr', State.setTop_of_frames _ hr', State.setFrames_setFrames, hr]
      rfl
    have hsame : U.sameButNew ({ U with heap := s₂.heap, slotsUsed := s₂.slotsUsed } : State) L mc ms := by
      refine ⟨?_, q2, q3, q4, q5, q6⟩
      obtain ⟨t, ht, -⟩ := State.frames_cons hr
      show ({ U with heap := s₂.heap, slotsUsed := s₂.slotsUsed } : State) = { U.setFrames U.frames with heap := s₂.heap, slotsUsed := s₂.slotsUsed }
      rw [State.setFrames_self ht]
    subst hg
    refine Or.inr ⟨q, ⟨(({ U with heap := s₂.heap, slotsUsed := s₂.slotsUsed } : State).setVm s₂.vm), Ls ++ L, c0 + mc, s0 + ms⟩,
      ⟨X.admits, X.cas, X.clock, X.frames, X.room, X.hears, X.method, X.code, (X.here.setHeapUsed s₂.heap s₂.slotsUsed).setVm hW'.alike, X.tail, State.WarmedH.trans X.warmed hW', X.limits, X.bytes, X.same.trans (hsame.setVm s.vm)⟩,
      ⟨g, mk, s₂, L, E, ce, rfl, rfl, hx, hce, hcv, hcl, rfl, hL, rfl, rfl⟩, ?_⟩
    show Steps p.tables e below _ (((({ U with heap := s₂.heap, slotsUsed := s₂.slotsUsed } : State).setVm s₂.vm).setTop g).pushFrame (.throwing q))
    rw [← hs₂]
    exact hsteps
end Payer
section Calls
variable {p : Program} {l : Launch} {e : Env} {R : Room} {s : State} {m : MethodId} {args : Array Value} {below : List Frame} {meth : Method} {c : Code} {T : State} {locs : List Loc} {cells slots : Nat}
theorem vx_callV (X : Stand p l e R s m args below meth c T locs cells slots) (hexec : p.tables.exec = Jvm.exec) {own C : String} {index : Nat} {y : MethodName} {bytes : ByteArray} {maxL : Nat} {ret : Option FieldType}
    (hown : s.vm.findClass own = some m.cls) (hlink : (Cond.methodLink own index y).before args s = true) (hinst : (Cond.instanceMethod y).before args s = true) (hsel : (Cond.selects C y y).before args s = true)
    (hcode : (Cond.code y bytes maxL ret).before args s = true) (hy : y.cls ≠ "java/lang/invoke/MethodHandle" ∧ y.cls ≠ "java/lang/invoke/VarHandle")
    {W9 : Nat} {Pre : Pt → Array Value → Prop} {Post : Pt → Array Value → Option Value → Pt → Prop} {PostX : Pt → Array Value → Addr → Pt → Prop} (hK : vx_Back l R p e below s args y 3 W9 Pre Post PostX)
    {b : Addr} {cellB : Cell} (hcell : T.heap[b]? = some cellB) (hobj : cellB.vm.isStatics = false) (hcls : s.vm.findClass C = some cellB.cls)
    {g : JFrame} (hg : g.method = m) (hsize : g.locals.size = c.maxLocals) {argsL rest : List Value} (hlen : ∀ sig, parseMethodDescriptor y.desc = some sig → argsL.length = sig.parameters.length)
    (hstack : g.stack = argsL.reverse ++ .ref b :: rest) (hW : 2 * g.monitorRoom + (rest.map fun v => v.category).sum ≤ W9) (hdg : decode c.code g.pc = .ok (.invokevirtual index, 3))
    (hpre : ∀ vm₁, s.WarmedH vm₁ → Pre ⟨T.setVm vm₁, locs, cells, slots⟩ (Value.ref b :: argsL).toArray) :
    (∃ (v : Option Value) (vm₁ : Vm) (B : Pt), s.WarmedH vm₁ ∧ Stand p l e R s m args below meth c B.U B.locs B.cells B.slots ∧ Post ⟨T.setVm vm₁, locs, cells, slots⟩ (Value.ref b :: argsL).toArray v B ∧
      ∀ target, Steps p.tables e below (B.U.setTop { g with pc := g.pc + 3, stack := v.toList ++ rest }) target → Steps p.tables e below (T.setTop g) target) ∨
    (∃ (q : Addr) (vm₁ : Vm) (B : Pt), s.WarmedH vm₁ ∧ Stand p l e R s m args below meth c B.U B.locs B.cells B.slots ∧ PostX ⟨T.setVm vm₁, locs, cells, slots⟩ (Value.ref b :: argsL).toArray q B ∧
      Steps p.tables e below (T.setTop g) ((B.U.setTop { g with stack := rest }).pushFrame (.throwing q))) := by
  obtain ⟨mk, methM, hnamed, hmethM, hstM, habM⟩ := Cond.instanceMethod_spec hinst
  obtain ⟨methM', cM, hmethM', -, -, -, -, -, -, hsigM⟩ := Cond.code_spec hnamed hcode
  cases hmethM.symm.trans hmethM'
  obtain ⟨c2, r2, m2, q1, q2, q3, q4, kP, hkP, hkPi⟩ := Cond.selects_spec hsel
  cases hcls.symm.trans q1
  cases (State.methodFound?_of_named hnamed hy).symm.trans q2
  cases hnamed.symm.trans q3
  have hselP : selectMethod e.platform s.vm cellB.cls mk = .method mk := by rw [Launch.admits_selectMethod X.admits]; exact q4
  obtain ⟨vm₁, X₁, hstep₁⟩ := X.invokevirtual hexec hown hlink hnamed hmethM hstM hkP hkPi hy (a := b) (cell := cellB) hcell
    (fun z h => by rw [h] at hobj; cases hobj) hselP hmethM habM hkP hkPi (g := g) hg (argsL := argsL) (rest := rest) (hlen _ hsigM) hstack hdg
  rcases hK m meth c ⟨T.setVm vm₁, locs, cells, slots⟩ { g with stack := rest } (.invokevirtual index) mk (Value.ref b :: argsL).toArray X₁ hg hsize hdg hW (X₁.named hnamed) (hpre vm₁ X₁.warmed) with ⟨v, B, X', hpost, hsteps⟩ | ⟨q, B, X', hpost, hsteps⟩
  · exact Or.inl ⟨v, vm₁, B, X₁.warmed, X', hpost, fun target h => hstep₁ _ fun acts => by rw [doInvoke_state]; exact hsteps.trans h⟩
  · exact Or.inr ⟨q, vm₁, B, X₁.warmed, X', hpost, hstep₁ _ fun acts => by rw [doInvoke_state]; exact hsteps⟩
theorem vx_callS (X : Stand p l e R s m args below meth c T locs cells slots) (hexec : p.tables.exec = Jvm.exec) {own : String} {index : Nat} {y : MethodName} {bytes : ByteArray} {maxL : Nat} {ret : Option FieldType}
    (hown : s.vm.findClass own = some m.cls) (hlink : (Cond.methodLink own index y).before args s = true) (hstat : (Cond.static y).before args s = true) (hinit : (Cond.initialized y.cls).before args s = true)
    (hcode : (Cond.code y bytes maxL ret).before args s = true) (hy : y.cls ≠ "java/lang/invoke/MethodHandle" ∧ y.cls ≠ "java/lang/invoke/VarHandle")
    {W9 : Nat} {Pre : Pt → Array Value → Prop} {Post : Pt → Array Value → Option Value → Pt → Prop} {PostX : Pt → Array Value → Addr → Pt → Prop} (hK : vx_Back l R p e below s args y 3 W9 Pre Post PostX)
    {g : JFrame} (hg : g.method = m) (hsize : g.locals.size = c.maxLocals) {argsL rest : List Value} (hlen : ∀ sig, parseMethodDescriptor y.desc = some sig → argsL.length = sig.parameters.length)
    (hstack : g.stack = argsL.reverse ++ rest) (hW : 2 * g.monitorRoom + (rest.map fun v => v.category).sum ≤ W9) (hdg : decode c.code g.pc = .ok (.invokestatic index, 3))
    (hpre : ∀ vm₁, s.WarmedH vm₁ → Pre ⟨T.setVm vm₁, locs, cells, slots⟩ argsL.toArray) :
    (∃ (v : Option Value) (vm₁ : Vm) (B : Pt), s.WarmedH vm₁ ∧ Stand p l e R s m args below meth c B.U B.locs B.cells B.slots ∧ Post ⟨T.setVm vm₁, locs, cells, slots⟩ argsL.toArray v B ∧
      ∀ target, Steps p.tables e below (B.U.setTop { g with pc := g.pc + 3, stack := v.toList ++ rest }) target → Steps p.tables e below (T.setTop g) target) ∨
    (∃ (q : Addr) (vm₁ : Vm) (B : Pt), s.WarmedH vm₁ ∧ Stand p l e R s m args below meth c B.U B.locs B.cells B.slots ∧ PostX ⟨T.setVm vm₁, locs, cells, slots⟩ argsL.toArray q B ∧
      Steps p.tables e below (T.setTop g) ((B.U.setTop { g with stack := rest }).pushFrame (.throwing q))) := by
  obtain ⟨mk, hnamed⟩ := Cond.code_named hcode
  obtain ⟨methM, cM, hmethM, -, -, -, -, -, -, hsigM⟩ := Cond.code_spec hnamed hcode
  have hstatic : methM.isStatic = true := Cond.static_spec hnamed hmethM hstat
  obtain ⟨kP, hkP, -⟩ := className_of_methodNamed hnamed
  have hinitP : kP.init = .initialized := Cond.initialized_spec (findClass_of_methodNamed hnamed) hkP hinit
  obtain ⟨vm₁, X₁, hstep₁⟩ := X.invokestatic hexec hown hlink hnamed hmethM hstatic hkP hinitP hy (g := g) hg (argsL := argsL) (rest := rest) (hlen _ hsigM) hstack hdg
  rcases hK m meth c ⟨T.setVm vm₁, locs, cells, slots⟩ { g with stack := rest } (.invokestatic index) mk argsL.toArray X₁ hg hsize hdg hW (X₁.named hnamed) (hpre vm₁ X₁.warmed) with ⟨v, B, X', hpost, hsteps⟩ | ⟨q, B, X', hpost, hsteps⟩
  · exact Or.inl ⟨v, vm₁, B, X₁.warmed, X', hpost, fun target h => hstep₁ _ fun acts => by rw [doInvoke_state]; exact hsteps.trans h⟩
  · exact Or.inr ⟨q, vm₁, B, X₁.warmed, X', hpost, hstep₁ _ fun acts => by rw [doInvoke_state]; exact hsteps⟩
end Calls
theorem vx_cls {s : State} {T : State} {vm₁ : Vm} {E : String} {k : ClassId} (hW : s.WarmedH vm₁) (h : (T.setVm vm₁).vm.findClass E = some k) : s.vm.findClass E = some k := by
  have h1 : vm₁.findClass E = some k := h
  rw [hW.alike.findClass] at h1
  exact h1
/-- the method's frame g, with q thrown over it -/
def vx_W (p : Program) (l : Launch) (e : Env) (R : Room) (s : State) (m : MethodId) (args : Array Value) (below : List Frame) (meth : Method) (c : Code) (H : Heap) (locs : List Loc) (cells slots : Nat) (Q : State → Prop) (g : JFrame) (q : Addr) : Prop :=
  ∀ T : State, T.heap = H → Stand p l e R s m args below meth c T locs cells slots → ∃ t, Steps p.tables e below ((T.setTop g).pushFrame (.throwing q)) t ∧ Q t
def vx_Run (p : Program) (l : Launch) (e : Env) (R : Room) (s : State) (m : MethodId) (args : Array Value) (below : List Frame) (meth : Method) (c : Code) (H : Heap) (locs : List Loc) (cells slots mc ms : Nat) (g : JFrame) (rest : List Value) (Qa : State → Outcome → State → Prop) (XC : String → State → State → Prop) (free : Addr → Prop) : Prop :=
  ∀ T : State, T.heap = H → Stand p l e R s m args below meth c T locs cells slots →
    (∃ (v : Option Value) (st₀ t T' : State) (L : List Loc), st₀.heap = H ∧ Stand p l e R s m args below meth c T' (locs ++ L) (cells + mc) (slots + ms) ∧ (∀ q ∈ L, free q.base) ∧ T'.heap = t.heap ∧ T'.vm = t.vm ∧ Qa st₀ (.returned v) t ∧
      Goes p e below T g T' { g with pc := g.pc + 3, stack := v.toList ++ rest }) ∨
    (∃ (q : Addr) (st₀ t T' : State) (L : List Loc) (E : String) (ce : Cell), st₀.heap = H ∧ Stand p l e R s m args below meth c T' (locs ++ L) (cells + mc) (slots + ms) ∧ (∀ z ∈ L, free z.base) ∧ T'.heap = t.heap ∧ T'.vm = t.vm ∧ XC E st₀ t ∧ t.heap[q]? = some ce ∧ ce.vm = .none ∧ s.vm.findClass E = some ce.cls ∧
      Steps p.tables e below (T.setTop g) ((T'.setTop { g with stack := rest }).pushFrame (.throwing q)))
def vx_X {S : Type} (px : S → Prop) (B : String → S → State → Prop) (A : Nat → Prop) : String → State → State → Prop := fun E st t => ∃ u : S, px u ∧ B E u t ∧ va_F A st t
section Runs
variable {p : Program} {l : Launch} {e : Env} {R : Room} {s : State} {m : MethodId} {args : Array Value} {below : List Frame} {meth : Method} {c : Code} {H : Heap} {locs : List Loc} {cells slots : Nat}
variable {y : MethodName} {bytes cc : ByteArray} {maxL nL mc ms n index : Nat} {ret : Option FieldType} {ws : List Cond} {rm : Room} {Pc : Array Value → State → Prop} {Qc : Array Value → State → Outcome → State → Prop} {XC : String → State → State → Prop} {free : Addr → Prop} {Ts : List Cond} {own C : String} {b : Addr} {As rest : List Value} {g : JFrame}
theorem vx_callBack (cb : CallB R s args own index y bytes maxL ret ws rm mc ms n) (hM : vx_Met l y ws rm Pc Qc XC mc ms free) (hbl : FrameBlind Pc) : vx_Back l R p e below s args y 3 8 (PreOf R mc ms Pc) (PostOf Qc mc ms free) (vx_Post XC mc ms free) := by
  obtain ⟨hrc, hrs, hfr, hlo, hws, hcw, -, hini, -⟩ := cb
  exact vx_back (bytes := bytes) (maxL := maxL) (ret := ret) hM hbl hrc hrs hfr hlo hws hcw (fun a' U hW => word_at hW (Or.inl (by first | rfl | simp [Cond.onTables, Cond.keeps, Cond.steady])) hini)
theorem vx_runV (S : CallFix p m c cc nL s args Ts own) (hM : vx_Met l y ws rm Pc Qc XC mc ms free) (cw : CallW R s args own C index y bytes maxL ret ws rm mc ms n) (hp : PreV s H C b Pc As)
    (hg : g.method = m) (hn : As.length = n) (hsize : g.locals.size = nL) (hstack : g.stack = As.reverse ++ .ref b :: rest) (hW : 2 * g.monitorRoom + (rest.map fun v => v.category).sum ≤ 8) (hdg : decode cc g.pc = .ok (.invokevirtual index, 3)) (hf : cells + mc ≤ R.cells ∧ slots + ms ≤ R.slots) :
    vx_Run p l e R s m args below meth c H locs cells slots mc ms g rest (Qc (Value.ref b :: As).toArray) XC free := by
  have hK : vx_Back l R p e below s args y 3 8 (PreOf R mc ms Pc) (PostOf Qc mc ms free) (vx_Post XC mc ms free) := vx_callBack cw.1 hM hp.1
  obtain ⟨⟨-, -, -, -, -, -, hcode, -, hy, hlen, hl⟩, hin, hse⟩ := cw
  obtain ⟨hx, hb, hml, ho, -⟩ := S
  obtain ⟨-, ⟨cellB, hcB, hoB, hclB⟩, hPc⟩ := hp
  intro T hT X
  rcases vx_callV X hx (C := C) (bytes := bytes) (maxL := maxL) (ret := ret) ho hl hin hse hcode hy hK (by rw [hT]; exact hcB) hoB hclB hg (hsize.trans hml.symm) (argsL := As) (rest := rest) (fun sig h => hn.trans (hlen sig h)) hstack hW (by rw [hb]; exact hdg)
    (fun vm₁ hW₁ => ⟨hf.1, hf.2, hPc (T.setVm vm₁) hT hW₁⟩) with ⟨v, vm₁, ⟨U', l2, c2, s2⟩, hW₁, X', ⟨g', mk, t, L, e1, e2, hq, h1, hL, h2, h3⟩, st⟩ | ⟨q, vm₁, ⟨U', l2, c2, s2⟩, hW₁, X', ⟨g', mk, t, L, E, ce, e1, e2, hq, hce, hcv, hcl, h1, hL, h2, h3⟩, st⟩
  · dsimp only [Pt.U, Pt.locs, Pt.cells, Pt.slots] at X' e1 e2 h1 h2 h3 st
    subst h1; subst h2; subst h3
    exact Or.inl ⟨v, (T.setVm vm₁).calling g' mk (Value.ref b :: As).toArray, t, U', L, hT, X', hL, e1, e2, hq, st⟩
  · dsimp only [Pt.U, Pt.locs, Pt.cells, Pt.slots] at X' e1 e2 h1 h2 h3 st hcl
    subst h1; subst h2; subst h3
    exact Or.inr ⟨q, (T.setVm vm₁).calling g' mk (Value.ref b :: As).toArray, t, U', L, E, ce, hT, X', hL, e1, e2, hq, hce, hcv, vx_cls hW₁ hcl, st⟩
theorem vx_runS (S : CallFix p m c cc nL s args Ts own) (hM : vx_Met l y ws rm Pc Qc XC mc ms free) (cw : CallB R s args own index y bytes maxL ret ws rm mc ms n ∧ (Cond.static y).before args s = true) (hp : PreS s H Pc As)
    (hg : g.method = m) (hn : As.length = n) (hsize : g.locals.size = nL) (hstack : g.stack = As.reverse ++ rest) (hW : 2 * g.monitorRoom + (rest.map fun v => v.category).sum ≤ 8) (hdg : decode cc g.pc = .ok (.invokestatic index, 3)) (hf : cells + mc ≤ R.cells ∧ slots + ms ≤ R.slots) :
    vx_Run p l e R s m args below meth c H locs cells slots mc ms g rest (Qc As.toArray) XC free := by
  have hK : vx_Back l R p e below s args y 3 8 (PreOf R mc ms Pc) (PostOf Qc mc ms free) (vx_Post XC mc ms free) := vx_callBack cw.1 hM hp.1
  obtain ⟨⟨-, -, -, -, -, -, hcode, hini, hy, hlen, hl⟩, hstt⟩ := cw
  obtain ⟨hx, hb, hml, ho, -⟩ := S
  intro T hT X
  rcases vx_callS X hx (bytes := bytes) (maxL := maxL) (ret := ret) ho hl hstt hini hcode hy hK hg (hsize.trans hml.symm) (argsL := As) (rest := rest) (fun sig h => hn.trans (hlen sig h)) hstack hW (by rw [hb]; exact hdg)
    (fun vm₁ hW₁ => ⟨hf.1, hf.2, hp.2 (T.setVm vm₁) hT hW₁⟩) with ⟨v, vm₁, ⟨U', l2, c2, s2⟩, hW₁, X', ⟨g', mk, t, L, e1, e2, hq, h1, hL, h2, h3⟩, st⟩ | ⟨q, vm₁, ⟨U', l2, c2, s2⟩, hW₁, X', ⟨g', mk, t, L, E, ce, e1, e2, hq, hce, hcv, hcl, h1, hL, h2, h3⟩, st⟩
  · dsimp only [Pt.U, Pt.locs, Pt.cells, Pt.slots] at X' e1 e2 h1 h2 h3 st
    subst h1; subst h2; subst h3
    exact Or.inl ⟨v, (T.setVm vm₁).calling g' mk As.toArray, t, U', L, hT, X', hL, e1, e2, hq, st⟩
  · dsimp only [Pt.U, Pt.locs, Pt.cells, Pt.slots] at X' e1 e2 h1 h2 h3 st hcl
    subst h1; subst h2; subst h3
    exact Or.inr ⟨q, (T.setVm vm₁).calling g' mk As.toArray, t, U', L, E, ce, hT, X', hL, e1, e2, hq, hce, hcv, vx_cls hW₁ hcl, st⟩
end Runs
section Rows
variable {p : Program} {l : Launch} {e : Env} {R : Room} {s : State} {m : MethodId} {args : Array Value} {below : List Frame} {meth : Method} {c : Code} {H : Heap} {locs : List Loc} {cells slots : Nat} {Q : State → Prop}
variable {mc ms : Nat} {free : Addr → Prop} {A0 A1 : Nat → Prop} {H0 : Heap} {a : Array Value} {pc : Nat} {ls : Array Slot} {st0 rest : List Value}
theorem vx_keep {st₀ t T' : State} {L : List Loc} (h0 : st₀.heap = H) (e1 : T'.heap = t.heap) (hS : va_S A0 H0 H locs) (hA : ∀ q, q < H.size → A1 q → A0 q) (hf : ∀ q, free q → A0 q) (hL : ∀ q ∈ L, free q.base) (hF : va_F A1 st₀ t) :
    H.size ≤ T'.heap.size ∧ (∀ q : Nat, q < H.size → ¬ A1 q → T'.heap[q]? = H[q]?) ∧ va_S A0 H0 T'.heap (locs ++ L) := by
  obtain ⟨hz, hk⟩ := hF
  rw [h0] at hz hk
  exact ⟨by rw [e1]; exact hz, fun q h1 h2 => by rw [e1]; exact hk q h1 h2,
    ⟨Nat.le_trans hS.1 (by rw [e1]; exact hz), fun q h1 h2 => by rw [e1, hk q (Nat.lt_of_lt_of_le h1 hS.1) (fun z => h2 (hA q (Nat.lt_of_lt_of_le h1 hS.1) z))]; exact hS.2.1 q h1 h2, fun q hq => by
      rcases List.mem_append.mp hq with h | h
      · exact hS.2.2 q h
      · exact hf _ (hL q h)⟩⟩
theorem vx_calli {S SX : Type} {post : Int32 → S → Prop} {px : SX → Prop} {B : S → State → Prop} {BX : String → SX → State → Prop} {AX : Nat → Prop} (hr : vx_Run p l e R s m args below meth c H locs cells slots mc ms (F0 m pc ls st0) rest (va_Qi post B A1 a) (vx_X px BX AX) free) (hS : va_S A0 H0 H locs) (hA : ∀ q, q < H.size → A1 q → A0 q) (hf : ∀ q, free q → A0 q) (hAX : ∀ q, q < H.size → AX q → A0 q)
    (kx : ∀ (E : String) (ce : Cell) (q9 : Addr) (u : SX) (t : State) (H1 : Heap) (locs1 : List Loc), t.heap = H1 → s.vm.Alike t.vm → px u → BX E u t → H.size ≤ H1.size → (∀ q : Nat, q < H.size → ¬ AX q → H1[q]? = H[q]?) → va_S A0 H0 H1 locs1 → H1[q9]? = some ce → ce.vm = .none → s.vm.findClass E = some ce.cls → vx_W p l e R s m args below meth c H1 locs1 (cells + mc) (slots + ms) Q (F0 m pc ls rest) q9)
    (kk : ∀ (r : Int32) (u : S) (t : State) (H1 : Heap) (locs1 : List Loc), t.heap = H1 → s.vm.Alike t.vm → post r u → B u t → H.size ≤ H1.size → (∀ q : Nat, q < H.size → ¬ A1 q → H1[q]? = H[q]?) → va_S A0 H0 H1 locs1 → W p l e R s m args below meth c H1 locs1 (cells + mc) (slots + ms) Q (F0 m (pc + 3) ls (.int r :: rest))) : W p l e R s m args below meth c H locs cells slots Q (F0 m pc ls st0) := by
  intro T hT X
  rcases hr T hT X with ⟨v, st₀, t, T', L, h0, X', hL, e1, e2, ⟨⟨r, u, hv, hp, hb⟩, hF⟩, st⟩ | ⟨q, st₀, t, T', L, E, ce, h0, X', hL, e1, e2, ⟨u, hp, hb, hF⟩, hce, hcv, hcl, st⟩
  · cases hv
    obtain ⟨k1, k2, k3⟩ := vx_keep h0 e1 hS hA hf hL hF
    obtain ⟨t2, a1, b1⟩ := kk r u t T'.heap (locs ++ L) e1.symm (by rw [← e2]; exact X'.warmed.alike) hp hb k1 k2 k3 T' rfl X'
    exact ⟨t2, st t2 a1, b1⟩
  · obtain ⟨k1, k2, k3⟩ := vx_keep h0 e1 hS hAX hf hL hF
    obtain ⟨t2, a1, b1⟩ := kx E ce q u t T'.heap (locs ++ L) e1.symm (by rw [← e2]; exact X'.warmed.alike) hp hb k1 k2 k3 (by rw [e1]; exact hce) hcv hcl T' rfl X'
    exact ⟨t2, st.trans a1, b1⟩
theorem vx_calll {S SX : Type} {post : Int64 → S → Prop} {px : SX → Prop} {B : S → State → Prop} {BX : String → SX → State → Prop} {AX : Nat → Prop} (hr : vx_Run p l e R s m args below meth c H locs cells slots mc ms (F0 m pc ls st0) rest (va_Ql post B A1 a) (vx_X px BX AX) free) (hS : va_S A0 H0 H locs) (hA : ∀ q, q < H.size → A1 q → A0 q) (hf : ∀ q, free q → A0 q) (hAX : ∀ q, q < H.size → AX q → A0 q)
    (kx : ∀ (E : String) (ce : Cell) (q9 : Addr) (u : SX) (t : State) (H1 : Heap) (locs1 : List Loc), t.heap = H1 → s.vm.Alike t.vm → px u → BX E u t → H.size ≤ H1.size → (∀ q : Nat, q < H.size → ¬ AX q → H1[q]? = H[q]?) → va_S A0 H0 H1 locs1 → H1[q9]? = some ce → ce.vm = .none → s.vm.findClass E = some ce.cls → vx_W p l e R s m args below meth c H1 locs1 (cells + mc) (slots + ms) Q (F0 m pc ls rest) q9)
    (kk : ∀ (r : Int64) (u : S) (t : State) (H1 : Heap) (locs1 : List Loc), t.heap = H1 → s.vm.Alike t.vm → post r u → B u t → H.size ≤ H1.size → (∀ q : Nat, q < H.size → ¬ A1 q → H1[q]? = H[q]?) → va_S A0 H0 H1 locs1 → W p l e R s m args below meth c H1 locs1 (cells + mc) (slots + ms) Q (F0 m (pc + 3) ls (.long r :: rest))) : W p l e R s m args below meth c H locs cells slots Q (F0 m pc ls st0) := by
  intro T hT X
  rcases hr T hT X with ⟨v, st₀, t, T', L, h0, X', hL, e1, e2, ⟨⟨r, u, hv, hp, hb⟩, hF⟩, st⟩ | ⟨q, st₀, t, T', L, E, ce, h0, X', hL, e1, e2, ⟨u, hp, hb, hF⟩, hce, hcv, hcl, st⟩
  · cases hv
    obtain ⟨k1, k2, k3⟩ := vx_keep h0 e1 hS hA hf hL hF
    obtain ⟨t2, a1, b1⟩ := kk r u t T'.heap (locs ++ L) e1.symm (by rw [← e2]; exact X'.warmed.alike) hp hb k1 k2 k3 T' rfl X'
    exact ⟨t2, st t2 a1, b1⟩
  · obtain ⟨k1, k2, k3⟩ := vx_keep h0 e1 hS hAX hf hL hF
    obtain ⟨t2, a1, b1⟩ := kx E ce q u t T'.heap (locs ++ L) e1.symm (by rw [← e2]; exact X'.warmed.alike) hp hb k1 k2 k3 (by rw [e1]; exact hce) hcv hcl T' rfl X'
    exact ⟨t2, st.trans a1, b1⟩
theorem vx_callf {S SX : Type} {post : UInt32 → S → Prop} {px : SX → Prop} {B : S → State → Prop} {BX : String → SX → State → Prop} {AX : Nat → Prop} (hr : vx_Run p l e R s m args below meth c H locs cells slots mc ms (F0 m pc ls st0) rest (va_Qf post B A1 a) (vx_X px BX AX) free) (hS : va_S A0 H0 H locs) (hA : ∀ q, q < H.size → A1 q → A0 q) (hf : ∀ q, free q → A0 q) (hAX : ∀ q, q < H.size → AX q → A0 q)
    (kx : ∀ (E : String) (ce : Cell) (q9 : Addr) (u : SX) (t : State) (H1 : Heap) (locs1 : List Loc), t.heap = H1 → s.vm.Alike t.vm → px u → BX E u t → H.size ≤ H1.size → (∀ q : Nat, q < H.size → ¬ AX q → H1[q]? = H[q]?) → va_S A0 H0 H1 locs1 → H1[q9]? = some ce → ce.vm = .none → s.vm.findClass E = some ce.cls → vx_W p l e R s m args below meth c H1 locs1 (cells + mc) (slots + ms) Q (F0 m pc ls rest) q9)
    (kk : ∀ (r : UInt32) (u : S) (t : State) (H1 : Heap) (locs1 : List Loc), t.heap = H1 → s.vm.Alike t.vm → post r u → B u t → H.size ≤ H1.size → (∀ q : Nat, q < H.size → ¬ A1 q → H1[q]? = H[q]?) → va_S A0 H0 H1 locs1 → W p l e R s m args below meth c H1 locs1 (cells + mc) (slots + ms) Q (F0 m (pc + 3) ls (.float r :: rest))) : W p l e R s m args below meth c H locs cells slots Q (F0 m pc ls st0) := by
  intro T hT X
  rcases hr T hT X with ⟨v, st₀, t, T', L, h0, X', hL, e1, e2, ⟨⟨r, u, hv, hp, hb⟩, hF⟩, st⟩ | ⟨q, st₀, t, T', L, E, ce, h0, X', hL, e1, e2, ⟨u, hp, hb, hF⟩, hce, hcv, hcl, st⟩
  · cases hv
    obtain ⟨k1, k2, k3⟩ := vx_keep h0 e1 hS hA hf hL hF
    obtain ⟨t2, a1, b1⟩ := kk r u t T'.heap (locs ++ L) e1.symm (by rw [← e2]; exact X'.warmed.alike) hp hb k1 k2 k3 T' rfl X'
    exact ⟨t2, st t2 a1, b1⟩
  · obtain ⟨k1, k2, k3⟩ := vx_keep h0 e1 hS hAX hf hL hF
    obtain ⟨t2, a1, b1⟩ := kx E ce q u t T'.heap (locs ++ L) e1.symm (by rw [← e2]; exact X'.warmed.alike) hp hb k1 k2 k3 (by rw [e1]; exact hce) hcv hcl T' rfl X'
    exact ⟨t2, st.trans a1, b1⟩
theorem vx_calld {S SX : Type} {post : UInt64 → S → Prop} {px : SX → Prop} {B : S → State → Prop} {BX : String → SX → State → Prop} {AX : Nat → Prop} (hr : vx_Run p l e R s m args below meth c H locs cells slots mc ms (F0 m pc ls st0) rest (va_Qd post B A1 a) (vx_X px BX AX) free) (hS : va_S A0 H0 H locs) (hA : ∀ q, q < H.size → A1 q → A0 q) (hf : ∀ q, free q → A0 q) (hAX : ∀ q, q < H.size → AX q → A0 q)
    (kx : ∀ (E : String) (ce : Cell) (q9 : Addr) (u : SX) (t : State) (H1 : Heap) (locs1 : List Loc), t.heap = H1 → s.vm.Alike t.vm → px u → BX E u t → H.size ≤ H1.size → (∀ q : Nat, q < H.size → ¬ AX q → H1[q]? = H[q]?) → va_S A0 H0 H1 locs1 → H1[q9]? = some ce → ce.vm = .none → s.vm.findClass E = some ce.cls → vx_W p l e R s m args below meth c H1 locs1 (cells + mc) (slots + ms) Q (F0 m pc ls rest) q9)
    (kk : ∀ (r : UInt64) (u : S) (t : State) (H1 : Heap) (locs1 : List Loc), t.heap = H1 → s.vm.Alike t.vm → post r u → B u t → H.size ≤ H1.size → (∀ q : Nat, q < H.size → ¬ A1 q → H1[q]? = H[q]?) → va_S A0 H0 H1 locs1 → W p l e R s m args below meth c H1 locs1 (cells + mc) (slots + ms) Q (F0 m (pc + 3) ls (.double r :: rest))) : W p l e R s m args below meth c H locs cells slots Q (F0 m pc ls st0) := by
  intro T hT X
  rcases hr T hT X with ⟨v, st₀, t, T', L, h0, X', hL, e1, e2, ⟨⟨r, u, hv, hp, hb⟩, hF⟩, st⟩ | ⟨q, st₀, t, T', L, E, ce, h0, X', hL, e1, e2, ⟨u, hp, hb, hF⟩, hce, hcv, hcl, st⟩
  · cases hv
    obtain ⟨k1, k2, k3⟩ := vx_keep h0 e1 hS hA hf hL hF
    obtain ⟨t2, a1, b1⟩ := kk r u t T'.heap (locs ++ L) e1.symm (by rw [← e2]; exact X'.warmed.alike) hp hb k1 k2 k3 T' rfl X'
    exact ⟨t2, st t2 a1, b1⟩
  · obtain ⟨k1, k2, k3⟩ := vx_keep h0 e1 hS hAX hf hL hF
    obtain ⟨t2, a1, b1⟩ := kx E ce q u t T'.heap (locs ++ L) e1.symm (by rw [← e2]; exact X'.warmed.alike) hp hb k1 k2 k3 (by rw [e1]; exact hce) hcv hcl T' rfl X'
    exact ⟨t2, st.trans a1, b1⟩
theorem vx_callv {S SX : Type} {post : S → Prop} {px : SX → Prop} {B : S → State → Prop} {BX : String → SX → State → Prop} {AX : Nat → Prop} (hr : vx_Run p l e R s m args below meth c H locs cells slots mc ms (F0 m pc ls st0) rest (va_Qv post B A1 a) (vx_X px BX AX) free) (hS : va_S A0 H0 H locs) (hA : ∀ q, q < H.size → A1 q → A0 q) (hf : ∀ q, free q → A0 q) (hAX : ∀ q, q < H.size → AX q → A0 q)
    (kx : ∀ (E : String) (ce : Cell) (q9 : Addr) (u : SX) (t : State) (H1 : Heap) (locs1 : List Loc), t.heap = H1 → s.vm.Alike t.vm → px u → BX E u t → H.size ≤ H1.size → (∀ q : Nat, q < H.size → ¬ AX q → H1[q]? = H[q]?) → va_S A0 H0 H1 locs1 → H1[q9]? = some ce → ce.vm = .none → s.vm.findClass E = some ce.cls → vx_W p l e R s m args below meth c H1 locs1 (cells + mc) (slots + ms) Q (F0 m pc ls rest) q9)
    (kk : ∀ (u : S) (t : State) (H1 : Heap) (locs1 : List Loc), t.heap = H1 → s.vm.Alike t.vm → post u → B u t → H.size ≤ H1.size → (∀ q : Nat, q < H.size → ¬ A1 q → H1[q]? = H[q]?) → va_S A0 H0 H1 locs1 → W p l e R s m args below meth c H1 locs1 (cells + mc) (slots + ms) Q (F0 m (pc + 3) ls (rest))) : W p l e R s m args below meth c H locs cells slots Q (F0 m pc ls st0) := by
  intro T hT X
  rcases hr T hT X with ⟨v, st₀, t, T', L, h0, X', hL, e1, e2, ⟨⟨u, hv, hp, hb⟩, hF⟩, st⟩ | ⟨q, st₀, t, T', L, E, ce, h0, X', hL, e1, e2, ⟨u, hp, hb, hF⟩, hce, hcv, hcl, st⟩
  · cases hv
    obtain ⟨k1, k2, k3⟩ := vx_keep h0 e1 hS hA hf hL hF
    obtain ⟨t2, a1, b1⟩ := kk u t T'.heap (locs ++ L) e1.symm (by rw [← e2]; exact X'.warmed.alike) hp hb k1 k2 k3 T' rfl X'
    exact ⟨t2, st t2 a1, b1⟩
  · obtain ⟨k1, k2, k3⟩ := vx_keep h0 e1 hS hAX hf hL hF
    obtain ⟨t2, a1, b1⟩ := kx E ce q u t T'.heap (locs ++ L) e1.symm (by rw [← e2]; exact X'.warmed.alike) hp hb k1 k2 k3 (by rw [e1]; exact hce) hcv hcl T' rfl X'
    exact ⟨t2, st.trans a1, b1⟩
/-- caught by the row x of this method's table; the rows ahead don't take it -/
theorem vx_catch {own name : String} {E : String} {ce : Cell} {q : Addr} (hown : s.vm.findClass own = some m.cls) (pre : List ExceptionTableEntry) (x : ExceptionTableEntry) (suf : List ExceptionTableEntry) (hsplit : c.exceptionTable.toList = pre ++ x :: suf)
    (hpass : ∀ z ∈ pre, covers z pc = false ∨ (z.catchType ≠ 0 ∧ ∃ nm : String, (Cond.classLink own z.catchType nm).before args s = true ∧ va_Nc E nm s)) (hx : covers x pc = true) (h0 : x.catchType ≠ 0)
    (hlink : (Cond.classLink own x.catchType name).before args s = true) (hcast : (Cond.castable E name).before args s = true) (hcell : H[q]? = some ce) (hv : ce.vm = .none) (hcl : s.vm.findClass E = some ce.cls)
    (kk : W p l e R s m args below meth c H locs cells slots Q (F0 m x.handlerPc ls [.ref q])) : vx_W p l e R s m args below meth c H locs cells slots Q (F0 m pc ls rest) q := by
  intro T hT X
  have hpl : e.platform.magicAccessors = ({} : Platform).magicAccessors := by rw [X.admits.platform]
  obtain ⟨c3, c4, hc3, hc4, hasg⟩ := Cond.castable_spec hcast
  cases Option.some.inj (hc3.symm.trans hcl)
  obtain ⟨c5, hc5, hcl5⟩ := Cond.classLink_spec hown hlink e.platform hpl
  cases Option.some.inj (hc4.symm.trans hc5)
  obtain ⟨vm', X', st⟩ := X.thenCaughtThrough q (g := F0 m pc ls rest) rfl (Steps.refl _) (by rw [hT]; exact hcell) (by rw [hv]; rfl) (by obtain ⟨k9, h9, -⟩ := Vm.findClass_spec hcl; exact ⟨k9, h9⟩) pre x suf hsplit
    (fun z hz => by
      rcases hpass z hz with h | ⟨hz0, nm, hl1, hn1⟩
      · exact Or.inl h
      · obtain ⟨c6, hc6, hcl6⟩ := Cond.classLink_spec hown hl1 e.platform hpl
        obtain ⟨a8, b8, h1, h2, h3⟩ := hn1
        cases Option.some.inj (h1.symm.trans hcl)
        cases Option.some.inj (h2.symm.trans hc6)
        exact Or.inr ⟨hz0, _, hcl6, h3⟩) hx (Or.inr ⟨h0, c4, hcl5, hasg⟩)
  obtain ⟨t, a1, b1⟩ := kk (T.setVm vm') hT X'
  exact ⟨t, st.trans a1, b1⟩
end Rows
section Ends
variable {p : Program} {l : Launch} {e : Env} {R : Room} {s : State} {m : MethodId} {args : Array Value} {below : List Frame} {meth : Method} {c : Code} {H : Heap} {locs : List Loc} {cells slots : Nat} {Q : State → Prop}
variable {mc ms : Nat} {free : Addr → Prop} {A0 A1 : Nat → Prop} {H0 : Heap} {a : Array Value} {ls : Array Slot} {st0 rest : List Value}
variable {Qc : Array Value → State → Outcome → State → Prop} {XC : String → State → State → Prop}
/-- what a body that may throw owes at its end -/
def vx_MQ (below : List Frame) (Qc : Array Value → State → Outcome → State → Prop) (XC : String → State → State → Prop) (a : Array Value) (s : State) (mc ms : Nat) (free : Addr → Prop) : State → Prop := fun t =>
  ∃ o, t.status = .running ∧ Ended t below o ∧ vx_Q Qc XC mc ms free a s o t
theorem vx_ret {g : JFrame} {mc ms : Nat} (k : W p l e R s m args below meth c H locs cells slots (MQ below Qc args s mc ms free) g) : W p l e R s m args below meth c H locs cells slots (vx_MQ below Qc XC args s mc ms free) g := by
  intro T hT X
  obtain ⟨t, a1, o, b1, b2, b3, b4⟩ := k T hT X
  exact ⟨t, a1, o, b1, b2, Or.inl ⟨b3, b4⟩⟩
/-- not caught here: it goes on to the caller -/
theorem vx_widen {g : JFrame} {q : Addr} {k n : Nat} (h1 : cells ≤ k) (h2 : slots ≤ n) (kk : vx_W p l e R s m args below meth c H locs k n Q g q) : vx_W p l e R s m args below meth c H locs cells slots Q g q := fun T hT X => kk T hT (stand_widen X h1 h2)
theorem vx_out {pc : Nat} {E : String} {ce : Cell} {q : Addr} {mc ms : Nat} (hout : ∀ x ∈ c.exceptionTable.toList, covers x pc = false) (hlocks : meth.locks = false) (hcell : H[q]? = some ce) (hv : ce.vm = .none) (hcl : s.vm.findClass E = some ce.cls)
    (hx : ∀ t : State, t.heap = H → s.vm.Alike t.vm → XC E s t) (hf : ∀ z ∈ locs, free z.base) (hc : cells ≤ mc) (hs : slots ≤ ms) :
    vx_W p l e R s m args below meth c H locs cells slots (vx_MQ below Qc XC args s mc ms free) (F0 m pc ls rest) q := by
  intro T hT X
  obtain ⟨st1, hrun, hend, hW, hsm⟩ := X.leaveThrown q (g := F0 m pc ls rest) rfl rfl rfl hout hlocks
  have hcell9 : (T.setFrames (.throwing q :: below)).heap[q]? = some ce := by
    show T.heap[q]? = some ce
    rw [hT]; exact hcell
  exact ⟨_, st1, .threw q, hrun, hend, Or.inr ⟨q, rfl, E, ce, locs, hx _ hT hW.alike, hcell9, hv, hcl, hW, hsm.mono hc hs, hf⟩⟩
theorem vx_frame {U : State} {k n : Nat} (h : s.sameButNew ({ U with vm := s.vm } : State) locs k n) : s.heap.size ≤ U.heap.size ∧ ∀ q : Nat, q < s.heap.size → (∀ z ∈ locs, z.base ≠ q) → U.heap[q]? = s.heap[q]? := by
  obtain ⟨-, h2, -, -, -, h6⟩ := h
  refine ⟨h2, fun q hq hz => ?_⟩
  obtain ⟨c9, e1, e2, e3, e4⟩ := h6 q _ (Array.getElem?_eq_getElem hq)
  have hs : c9.slots = (s.heap[q]).slots := Array.ext_getElem? fun i => e4 i fun hm => hz _ hm rfl
  have h9 : c9 = s.heap[q] := by
    rw [hs] at e2
    exact e2
  have e5 : U.heap[q]? = some c9 := e1
  rw [e5, h9, Array.getElem?_eq_getElem hq]
/-- the words of a throw but the four that speak of the heap -/
def vx_no (w : Cond) : Bool := decide (w ≠ .isRef (.static Bundle.tN "UNASSIGNED_STACK" Bundle.steD)) && decide (w ≠ .isRef (.static Bundle.tN "SUPPRESSED_SENTINEL" Bundle.listD)) && decide (w ≠ .laysStatic Bundle.tN "UNASSIGNED_STACK" Bundle.steD) && decide (w ≠ .laysStatic Bundle.tN "SUPPRESSED_SENTINEL" Bundle.listD)
def vx_at0 (own : String) (ic : Nat) (X : String) (names : List String) : List Cond := (Bundle.ownAtoms0 own ic X names).filter vx_no
def vx_atS (own : String) (ic : Nat) (X : String) (names : List String) : List Cond := (Bundle.ownAtoms own ic X names).filter vx_no
/-- a word that the tables alone decide, or a good one -/
def vx_ot (w : Cond) : Bool := w.onTables || goodWord w
theorem vx_ot_at {args a' : Array Value} {s U : State} {w : Cond} (hW : s.WarmedH U.vm) (hvm : s.vm = U.vm) (hg : vx_ot w = true) (h : w.before args s = true) : w.before a' U = true := by
  simp only [vx_ot, Bool.or_eq_true] at hg
  rcases hg with hg | hg
  · exact va_tabs hg hvm h
  · exact word_at hW (good_of_word hg) h
/-- a list's words: the good ones out of the method's own list, the others by premises of their own -/
theorem vx_hat {args : Array Value} {s : State} {L B : List Cond} (h1 : ∀ w ∈ L.filter goodWord, w.before args s = true) (h2 : ∀ w ∈ L.filter (fun w => !goodWord w), w ∈ B) (h3 : ∀ w ∈ B, w.before args s = true) : ∀ w ∈ L, w.before args s = true := by
  intro w hw
  by_cases g : goodWord w = true
  · exact h1 w (List.mem_filter.mpr ⟨hw, g⟩)
  · refine h3 w (h2 w (List.mem_filter.mpr ⟨hw, ?_⟩))
    show (!goodWord w) = true
    cases hgw : goodWord w
    · rfl
    · exact absurd hgw g
theorem vx_c {args : Array Value} {s : State} {w : Cond} {B : List Cond} (h : w.before args s = true) (t : ∀ w ∈ B, w.before args s = true) : ∀ w' ∈ w :: B, w'.before args s = true := fun w' h' => (List.mem_cons.mp h').elim (fun e => by rw [e]; exact h) (t w')
theorem vx_n {args : Array Value} {s : State} : ∀ w ∈ ([] : List Cond), w.before args s = true := fun _ h => nomatch h
theorem vx_own {args : Array Value} {s : State} {L : List Cond} (h1 : ∀ w ∈ L.filter vx_no, w.before args s = true)
    (hU : (Cond.isRef (.static Bundle.tN "UNASSIGNED_STACK" Bundle.steD)).before args s = true) (hN : (Cond.isRef (.static Bundle.tN "SUPPRESSED_SENTINEL" Bundle.listD)).before args s = true)
    (lU : (Cond.laysStatic Bundle.tN "UNASSIGNED_STACK" Bundle.steD).before args s = true) (lN : (Cond.laysStatic Bundle.tN "SUPPRESSED_SENTINEL" Bundle.listD).before args s = true) : ∀ w ∈ L, w.before args s = true := by
  intro w hw
  by_cases e1 : w = .isRef (.static Bundle.tN "UNASSIGNED_STACK" Bundle.steD)
  · rw [e1]; exact hU
  · by_cases e2 : w = .isRef (.static Bundle.tN "SUPPRESSED_SENTINEL" Bundle.listD)
    · rw [e2]; exact hN
    · by_cases e3 : w = .laysStatic Bundle.tN "UNASSIGNED_STACK" Bundle.steD
      · rw [e3]; exact lU
      · by_cases e4 : w = .laysStatic Bundle.tN "SUPPRESSED_SENTINEL" Bundle.listD
        · rw [e4]; exact lN
        · exact h1 w (List.mem_filter.mpr ⟨hw, by unfold vx_no; rw [decide_eq_true e1, decide_eq_true e2, decide_eq_true e3, decide_eq_true e4]; rfl⟩)
/-- where a static field lies, its class's statics cell in H -/
def vx_L (C n d : String) (A : Nat → Prop) (U : State) (H : Heap) : Prop := ∃ (c : ClassId) (k : Class) (i : Nat) (f : Field) (a : Nat) (cell : Cell), U.vm.findClass C = some c ∧ U.fieldFound? C n d = some (c, k, i, f) ∧ f.isStatic = true ∧ k.statics = some a ∧ H[a]? = some cell ∧ cell.vm.isStatics = true ∧ cell.cls = c ∧ f.slot < cell.slots.size ∧ k.staticTypes[f.slot]? = some f.type ∧ ¬ A a
theorem vx_L.moved {C n d : String} {A : Nat → Prop} {u U : State} {H : Heap} (hvm : u.vm.Alike U.vm) (h : vx_L C n d A u H) : vx_L C n d A U H := by
  obtain ⟨c, k, i, f, a, cell, h1, h2, h3, h4, h5, h6, h7, h8, h9, h10⟩ := h
  obtain ⟨k', hi', he⟩ := State.fieldFound?_setVm hvm h2
  exact ⟨c, k', i, f, a, cell, by rw [hvm.findClass]; exact h1, hi', h3, by rw [he]; exact h4, h5, h6, h7, h8, by rw [he]; exact h9, h10⟩
theorem vx_L.kept {C n d : String} {A : Nat → Prop} {U : State} {H H1 : Heap} (h : vx_L C n d A U H) (hq : ∀ a : Nat, a < H.size → ¬ A a → H1[a]? = H[a]?) : vx_L C n d A U H1 := by
  obtain ⟨c, k, i, f, a, cell, h1, h2, h3, h4, h5, h6, h7, h8, h9, h10⟩ := h
  exact ⟨c, k, i, f, a, cell, h1, h2, h3, h4, by rw [hq a (Array.getElem?_eq_some_iff.mp h5).1 h10]; exact h5, h6, h7, h8, h9, h10⟩
theorem vx_L.narrow {C n d : String} {A B : Nat → Prop} {U : State} {H : Heap} (h : vx_L C n d A U H) (hAB : ∀ q, B q → A q) : vx_L C n d B U H := by
  obtain ⟨c, k, i, f, a, cell, h1, h2, h3, h4, h5, h6, h7, h8, h9, h10⟩ := h
  exact ⟨c, k, i, f, a, cell, h1, h2, h3, h4, h5, h6, h7, h8, h9, fun z => h10 (hAB _ z)⟩
theorem vx_L.word {C n d : String} {A : Nat → Prop} {s : State} {args : Array Value} (h : vx_L C n d A s s.heap) : (Cond.laysStatic C n d).before args s = true := by
  obtain ⟨c, k, i, f, a, cell, h1, h2, h3, h4, h5, h6, h7, h8, h9, -⟩ := h
  show (Cond.laysStatic C n d).holds args s none s [] = true
  exact Cond.laysStatic_of h1 h2 h3 h4 h5 h6 h7 h8 h9
/-- .. and what it holds: null or some reference -/
def vx_Zq (C n d : String) (A : Nat → Prop) (U : State) (H : Heap) : Prop := va_Zq C n d A U H ∧ vx_L C n d A U H
theorem vx_Zq.moved {C n d : String} {A : Nat → Prop} {u U : State} {H : Heap} (hvm : u.vm.Alike U.vm) (h : vx_Zq C n d A u H) : vx_Zq C n d A U H := ⟨va_Zq.moved hvm h.1, vx_L.moved hvm h.2⟩
theorem vx_Zq.kept {C n d : String} {A : Nat → Prop} {U : State} {H H1 : Heap} (h : vx_Zq C n d A U H) (hq : ∀ a : Nat, a < H.size → ¬ A a → H1[a]? = H[a]?) : vx_Zq C n d A U H1 := ⟨va_Zq.kept h.1 hq, vx_L.kept h.2 hq⟩
theorem vx_Zq.narrow {C n d : String} {A B : Nat → Prop} {U : State} {H : Heap} (h : vx_Zq C n d A U H) (hAB : ∀ q, B q → A q) : vx_Zq C n d B U H := ⟨va_Zq.narrow h.1 hAB, vx_L.narrow h.2 hAB⟩
theorem vx_Zqof {args : Array Value} {s : State} {C n d : String} {A : Nat → Prop} (hl : (Cond.laysStatic C n d).before args s = true) (hini : (Cond.initialized C).before args s = true) (h : (Cond.isRef (.static C n d)).before args s = true) (hA : ∀ a : Nat, a < s.heap.size → ¬ A a) : vx_Zq C n d A s s.heap := by
  refine ⟨va_Zqof hl hini h hA, ?_⟩
  obtain ⟨c, k, i, f, a, cell, h1, h2, h3, h4, h5, h6, h7, h8, h9⟩ := Cond.laysStatic_spec hl
  exact ⟨c, k, i, f, a, cell, h1, h2, h3, h4, h5, h6, h7, h8, h9, hA a (Array.getElem?_eq_some_iff.mp h5).1⟩
theorem vx_isRef {C n d : String} {v : Value} {A : Nat → Prop} {s : State} {args : Array Value} (h : va_Z C n d v A s s.heap) (hv : v.isRef = true) : (Cond.isRef (.static C n d)).before args s = true := by
  obtain ⟨cf, kf, fi, f, a, cell, h1, h2, h3, h4, h5, h6, h7, -⟩ := h
  have he : (Term.static C n d).eval args s none [] s = some v := by
    simp [Term.eval, State.fieldNamed?, h1, h2, h4, h5, h6, h7]
  simp only [Cond.before, Cond.holds, Cond.value, he]
  cases v <;> simp_all [Value.isRef]
theorem vx_isRefq {C n d : String} {A : Nat → Prop} {s : State} {args : Array Value} (h : va_Zq C n d A s s.heap) : (Cond.isRef (.static C n d)).before args s = true := by
  rcases h with h | ⟨t, h⟩
  · exact vx_isRef h rfl
  · exact vx_isRef h rfl
/-- the same frame, seen from here: as if the method were called anew in this heap -/
theorem vx_rebase {T : State} (X : Stand p l e R s m args below meth c T locs cells slots) {R' : Room} (hf : R'.frames ≤ R.frames) (hl : R'.locals ≤ R.locals) (hc : cells + R'.cells ≤ R.cells) (hs : slots + R'.slots ≤ R.slots) :
    Stand p l e R' ((T.setVm s.vm).setFrames (.invoking m args :: below)) m args below meth c T [] 0 0 := by
  have htop : (T.setVm s.vm).topJava?.isSome := X.here.top
  have hF : ((T.setVm s.vm).setFrames (.invoking m args :: below)).frames = .invoking m args :: below := State.frames_setFrames _ (State.cur_lt_of_top htop)
  obtain ⟨g₀, hg0⟩ := Option.isSome_iff_exists.mp htop
  obtain ⟨r, hr⟩ := State.topJava?_eq_some.mp hg0
  have hl9 : e.platform.stackLimits (T.setVm s.vm).me = e.platform.stackLimits s.me := X.limits
  have hb9 : (T.setVm s.vm).me.stackBytes = s.me.stackBytes := X.bytes
  refine ⟨X.admits, X.cas, X.clock, hF, ?_, X.hears, X.method, X.code, X.here, X.tail, X.warmed, ?_, ?_, ?_⟩
  · have h := X.room
    have hU : ((T.setVm s.vm).setFrames (.invoking m args :: below)).localsInUse = s.localsInUse := by
      rw [State.localsInUse_invoking hF (meth := meth) (c := c) X.method X.code, State.localsInUse_invoking X.frames X.method X.code]
    simp only [State.hasRoom, Bool.and_eq_true, decide_eq_true_eq] at h ⊢
    obtain ⟨⟨⟨⟨h1, h2, h3, h4, h5, h6⟩, h7⟩, h8⟩, h9⟩ := h
    rw [X.frames, List.length_cons] at h2 h3
    have q1 := X.heapSize
    have q2 := X.used
    simp only [hF, hU, List.length_cons, State.stackLimits_setFrames, State.stackBytes_setFrames, hl9, hb9]
    refine ⟨⟨⟨⟨by omega, by omega, by omega, by omega, by omega, h6⟩, ?_⟩, ?_⟩, X.book⟩
    · show T.heap.size + R'.cells ≤ e.platform.maxCells
      omega
    · show T.slotsUsed + R'.slots ≤ e.platform.maxSlots
      omega
  · rw [State.stackLimits_setFrames]; rfl
  · rw [State.stackBytes_setFrames]; rfl
  · refine ⟨?_, Nat.le_refl _, Nat.le_refl _, ?_, ?_, fun a c9 h9 => ⟨c9, h9, rfl, rfl, fun _ _ => rfl⟩⟩
    · obtain ⟨t, ht, -⟩ := State.frames_cons hr
      show T.setVm s.vm = { ((T.setVm s.vm).setFrames (.invoking m args :: below)).setFrames (T.setVm s.vm).frames with heap := T.heap, slotsUsed := T.slotsUsed }
      rw [State.setFrames_setFrames, State.setFrames_self ht]
      rfl
    · show T.slotsUsed = T.slotsUsed + ((T.heap.toList.drop T.heap.size).map (·.slots.size)).sum
      rw [List.drop_eq_nil_of_le (Nat.le_of_eq Array.length_toList)]
      rfl
    · show ((T.heap.toList.drop T.heap.size).map (·.slots.size)).sum ≤ 0
      rw [List.drop_eq_nil_of_le (Nat.le_of_eq Array.length_toList)]
      exact Nat.le_refl _
/-- 'throw new E()': new; dup; invokespecial; athrow -/
theorem vx_throw0 {cc : ByteArray} {pc : Nat} (hexec : p.tables.exec = Jvm.exec) (hb : c.code = cc) (hl : l.stackTraces = false) {own cls : String} {names : List String} {ik ic mc ms : Nat} {A : Nat → Prop}
    (hown : s.vm.findClass own = some m.cls) (hcls : Bundle.fit cls = true) (hnames : ∀ n ∈ names, Bundle.fit n = true)
    (hk : (Cond.classLink own ik cls).before args s = true) (hini : (Cond.initialized cls).before args s = true) (hat : ∀ w ∈ vx_at0 own ic cls names, w.before args s = true)
    (hgood : ∀ w ∈ Cond.classLink own ik cls :: Cond.initialized cls :: vx_at0 own ic cls names, vx_ot w = true)
    (hU : vx_Zq Bundle.tN "UNASSIGNED_STACK" Bundle.steD A s s.heap) (hN : vx_Zq Bundle.tN "SUPPRESSED_SENTINEL" Bundle.listD A s s.heap) (hS : va_S A s.heap H locs) (hsize : ls.size = c.maxLocals)
    (d0 : decode cc pc = .ok (.new ik, 3)) (d3 : decode cc (pc + 3) = .ok (.dup, 1)) (d4 : decode cc (pc + 4) = .ok (.invokespecial ic, 3)) (d7 : decode cc (pc + 7) = .ok (.athrow, 1))
    (hout : ∀ x ∈ c.exceptionTable.toList, covers x (pc + 7) = false)
    (hRframes : names.length + 3 < R.frames) (hRlocals : (rest.map fun v => v.category).sum + (13 * (names.length + 1) + 42) ≤ R.locals) (hRcells : cells + 1 ≤ R.cells) (hRslots : slots + 6 ≤ R.slots) (hlocks : meth.locks = false)
    (hx : ∀ t : State, s.vm.Alike t.vm → H.size ≤ t.heap.size → (∀ q : Nat, q < H.size → t.heap[q]? = H[q]?) → XC cls s t)
    (hf : ∀ z ∈ locs, free z.base) (hc : cells + 1 ≤ mc) (hs : slots + 6 ≤ ms) :
    W p l e R s m args below meth c H locs cells slots (vx_MQ below Qc XC args s mc ms free) (F0 m pc ls rest) := by
  intro T hT X
  have htr : e.platform.stackTraces = false := (show e.platform.stackTraces = l.stackTraces by rw [X.admits.platform]).trans hl
  have Y := vx_rebase X (R' := { frames := R.frames, locals := R.locals, cells := 1, slots := 6 }) (Nat.le_refl _) (Nat.le_refl _) hRcells hRslots
  obtain ⟨s', hA⟩ : ∃ z, z = (T.setVm s.vm).setFrames (.invoking m args :: below) := ⟨_, rfl⟩
  rw [← hA] at Y
  have hvm : s'.vm = s.vm := by rw [hA]; rfl
  have hhp : s'.heap = H := by rw [hA]; exact hT
  have hW0 : s.WarmedH s'.vm := by rw [hvm]; exact State.WarmedH.refl s
  have hat' : ∀ w ∈ vx_at0 own ic cls names, w.before args s' = true := fun w hw => vx_ot_at hW0 hvm.symm (hgood w (List.mem_cons_of_mem _ (List.mem_cons_of_mem _ hw))) (hat w hw)
  have hk' : (Cond.classLink own ik cls).before args s' = true := vx_ot_at hW0 hvm.symm (hgood _ List.mem_cons_self) hk
  have hini' : (Cond.initialized cls).before args s' = true := vx_ot_at hW0 hvm.symm (hgood _ (List.mem_cons_of_mem _ List.mem_cons_self)) hini
  have hU' : vx_Zq Bundle.tN "UNASSIGNED_STACK" Bundle.steD A s' s'.heap := by rw [hhp]; exact vx_Zq.moved hW0.alike (hU.kept hS.2.1)
  have hN' : vx_Zq Bundle.tN "SUPPRESSED_SENTINEL" Bundle.listD A s' s'.heap := by rw [hhp]; exact vx_Zq.moved hW0.alike (hN.kept hS.2.1)
  have h : ∀ w ∈ Bundle.ownAtoms0 own ic cls names, w.before args s' = true := vx_own hat' (vx_isRefq hU'.1) (vx_isRefq hN'.1) hU'.2.word hN'.2.word
  have hown' : s'.vm.findClass own = some m.cls := by rw [hvm]; exact hown
  have hins : (Cond.instantiable cls 6).before args s' = true := h _ (by simp [Bundle.ownAtoms0])
  obtain ⟨vm₁, cX, kX, hfX, hkX, -, -, X₁, st1⟩ := Y.newCold hexec (own := own) (C := cls) (index := ik) (n := 6) hown' hk' hins hini'
    (g := F0 m pc ls rest) rfl (by rw [hb]; exact d0) (Nat.le_refl _) (Nat.le_refl _)
  generalize hT1 : (T.setVm vm₁).pushCell { cls := cX, slots := kX.instanceTypes.map defaultValue, vm := .none } = T1 at X₁ st1
  have hcat : (Value.ref T.heap.size).category = 1 := rfl
  have hcellA : T1.heap[T.heap.size]? = some (freshCell cX kX) := by rw [← hT1]; exact State.heap_pushCell_size _ _
  have d3' : decode c.code (pc + 3) = .ok (.dup, 1) := by rw [hb]; exact d3
  obtain ⟨U, hsteps, hrun, hend, hW, hsame, ce, hce, hO⟩ := X₁.ctorThrow0 hexec htr (own := own) (cls := cls) (names := names) (ic := ic) hown' hcls hnames h (fun x hx => nomatch hx) hfX hkX hcellA (by rw [hhp, hT]; exact Nat.le_refl _)
    (g := { method := m, pc := pc + 4, locals := ls, stack := .ref T.heap.size :: .ref T.heap.size :: rest, locked := none }) rfl hsize rfl rfl (rest := rest) rfl
    (by rw [hb]; exact d4) (by rw [hb]; exact d7) hout hRframes (by simp only [List.map_cons, List.sum_cons, hcat]; omega) hlocks
  obtain ⟨f1, f2⟩ := vx_frame hsame
  rw [hhp] at f1 f2
  have hWs : s.WarmedH U.vm := State.WarmedH.trans hW0 hW
  have hcl : s.vm.findClass cls = some ce.cls := by
    have h9 := hO.cls
    rw [hvm] at h9
    exact h9
  have hall : s.sameButNew ({ U with vm := s.vm } : State) locs mc ms := by
    subst hA
    obtain ⟨e1, e2⟩ := hsame
    rw [State.setFrames_setFrames] at e1
    have h2 : (T.setVm s.vm).sameButNew ({ U with vm := s.vm } : State) [] (0 + 1) (0 + 6) := ⟨e1, e2⟩
    have h3 := X.same.trans h2
    rw [List.append_nil] at h3
    exact h3.mono hc hs
  refine ⟨U, ?_, .threw T.heap.size, hrun, hend, Or.inr ⟨T.heap.size, rfl, cls, ce, locs, hx U hWs.alike f1 (fun q hq => f2 q hq (fun z hz => nomatch hz)), hce, hO.vm, hcl, hWs, hall, hf⟩⟩
  refine st1 _ ?_
  show Steps p.tables e below (T1.setTop { method := m, pc := pc + 3, locals := ls, stack := .ref T.heap.size :: rest, locked := none }) _
  jvm_step X₁.here [X₁.here.top, hexec, d3', Value.category]
  exact hsteps
/-- 'throw new E("text")': new; dup; ldc; invokespecial; athrow -/
theorem vx_throwS {cc : ByteArray} {pc : Nat} (hexec : p.tables.exec = Jvm.exec) (hb : c.code = cc) (hl : l.stackTraces = false) {own cls text : String} {names : List String} {ik is ic mc ms sa : Nat} {A : Nat → Prop}
    (hown : s.vm.findClass own = some m.cls) (hcls : Bundle.fit cls = true) (hnames : ∀ n ∈ names, Bundle.fit n = true)
    (hk : (Cond.classLink own ik cls).before args s = true) (hini : (Cond.initialized cls).before args s = true) (hstr : vk_R own is text sa s) (hat : ∀ w ∈ vx_atS own ic cls names, w.before args s = true)
    (hgood : ∀ w ∈ Cond.classLink own ik cls :: Cond.initialized cls :: vx_atS own ic cls names, vx_ot w = true)
    (hU : vx_Zq Bundle.tN "UNASSIGNED_STACK" Bundle.steD A s s.heap) (hN : vx_Zq Bundle.tN "SUPPRESSED_SENTINEL" Bundle.listD A s s.heap) (hS : va_S A s.heap H locs) (hsize : ls.size = c.maxLocals)
    (d0 : decode cc pc = .ok (.new ik, 3)) (d3 : decode cc (pc + 3) = .ok (.dup, 1)) (d4 : decode cc (pc + 4) = .ok (.ldc is, 2)) (d6 : decode cc (pc + 6) = .ok (.invokespecial ic, 3)) (d9 : decode cc (pc + 9) = .ok (.athrow, 1))
    (hout : ∀ x ∈ c.exceptionTable.toList, covers x (pc + 9) = false)
    (hRframes : names.length + 3 < R.frames) (hRlocals : (rest.map fun v => v.category).sum + (13 * (names.length + 1) + 43) ≤ R.locals) (hRcells : cells + 1 ≤ R.cells) (hRslots : slots + 6 ≤ R.slots) (hlocks : meth.locks = false)
    (hx : ∀ t : State, s.vm.Alike t.vm → H.size ≤ t.heap.size → (∀ q : Nat, q < H.size → t.heap[q]? = H[q]?) → XC cls s t)
    (hf : ∀ z ∈ locs, free z.base) (hc : cells + 1 ≤ mc) (hs : slots + 6 ≤ ms) :
    W p l e R s m args below meth c H locs cells slots (vx_MQ below Qc XC args s mc ms free) (F0 m pc ls rest) := by
  intro T hT X
  have htr : e.platform.stackTraces = false := (show e.platform.stackTraces = l.stackTraces by rw [X.admits.platform]).trans hl
  have Y := vx_rebase X (R' := { frames := R.frames, locals := R.locals, cells := 1, slots := 6 }) (Nat.le_refl _) (Nat.le_refl _) hRcells hRslots
  obtain ⟨s', hA⟩ : ∃ z, z = (T.setVm s.vm).setFrames (.invoking m args :: below) := ⟨_, rfl⟩
  rw [← hA] at Y
  have hvm : s'.vm = s.vm := by rw [hA]; rfl
  have hhp : s'.heap = H := by rw [hA]; exact hT
  have hW0 : s.WarmedH s'.vm := by rw [hvm]; exact State.WarmedH.refl s
  have hat' : ∀ w ∈ vx_atS own ic cls names, w.before args s' = true := fun w hw => vx_ot_at hW0 hvm.symm (hgood w (List.mem_cons_of_mem _ (List.mem_cons_of_mem _ hw))) (hat w hw)
  have hk' : (Cond.classLink own ik cls).before args s' = true := vx_ot_at hW0 hvm.symm (hgood _ List.mem_cons_self) hk
  have hini' : (Cond.initialized cls).before args s' = true := vx_ot_at hW0 hvm.symm (hgood _ (List.mem_cons_of_mem _ List.mem_cons_self)) hini
  have hU' : vx_Zq Bundle.tN "UNASSIGNED_STACK" Bundle.steD A s' s'.heap := by rw [hhp]; exact vx_Zq.moved hW0.alike (hU.kept hS.2.1)
  have hN' : vx_Zq Bundle.tN "SUPPRESSED_SENTINEL" Bundle.listD A s' s'.heap := by rw [hhp]; exact vx_Zq.moved hW0.alike (hN.kept hS.2.1)
  have h : ∀ w ∈ Bundle.ownAtoms own ic cls names, w.before args s' = true := vx_own hat' (vx_isRefq hU'.1) (vx_isRefq hN'.1) hU'.2.word hN'.2.word
  have hown' : s'.vm.findClass own = some m.cls := by rw [hvm]; exact hown
  have hins : (Cond.instantiable cls 6).before args s' = true := h _ (by simp [Bundle.ownAtoms])
  obtain ⟨vm₁, cX, kX, hfX, hkX, -, -, X₁, st1⟩ := Y.newCold hexec (own := own) (C := cls) (index := ik) (n := 6) hown' hk' hins hini'
    (g := F0 m pc ls rest) rfl (by rw [hb]; exact d0) (Nat.le_refl _) (Nat.le_refl _)
  generalize hT1 : (T.setVm vm₁).pushCell { cls := cX, slots := kX.instanceTypes.map defaultValue, vm := .none } = T1 at X₁ st1
  have hcat : (Value.ref T.heap.size).category = 1 := rfl
  have hcellA : T1.heap[T.heap.size]? = some (freshCell cX kX) := by rw [← hT1]; exact State.heap_pushCell_size _ _
  have d3' : decode c.code (pc + 3) = .ok (.dup, 1) := by rw [hb]; exact d3
  have d4' : decode c.code (pc + 4) = .ok (.ldc is, 2) := by rw [hb]; exact d4
  have hstr' : vk_R own is text sa s' := vk_R.warm hW0 hstr
  obtain ⟨U, hsteps, hrun, hend, hW, hsame, ce, hce, hO⟩ := X₁.ctorThrowS hexec htr (own := own) (cls := cls) (names := names) (ic := ic) hown' hcls hnames h (fun x hx => nomatch hx) hfX hkX hcellA (by rw [hhp, hT]; exact Nat.le_refl _) (msg := .ref sa) rfl
    (g := { method := m, pc := pc + 6, locals := ls, stack := .ref sa :: .ref T.heap.size :: .ref T.heap.size :: rest, locked := none }) rfl hsize rfl rfl (rest := rest) rfl
    (by rw [hb]; exact d6) (by rw [hb]; exact d9) hout hRframes (by simp only [List.map_cons, List.sum_cons, hcat]; omega) hlocks
  obtain ⟨f1, f2⟩ := vx_frame hsame
  rw [hhp] at f1 f2
  have hWs : s.WarmedH U.vm := State.WarmedH.trans hW0 hW
  have hcl : s.vm.findClass cls = some ce.cls := by
    have h9 := hO.cls
    rw [hvm] at h9
    exact h9
  have hall : s.sameButNew ({ U with vm := s.vm } : State) locs mc ms := by
    subst hA
    obtain ⟨e1, e2⟩ := hsame
    rw [State.setFrames_setFrames] at e1
    have h2 : (T.setVm s.vm).sameButNew ({ U with vm := s.vm } : State) [] (0 + 1) (0 + 6) := ⟨e1, e2⟩
    have h3 := X.same.trans h2
    rw [List.append_nil] at h3
    exact h3.mono hc hs
  refine ⟨U, ?_, .threw T.heap.size, hrun, hend, Or.inr ⟨T.heap.size, rfl, cls, ce, locs, hx U hWs.alike f1 (fun q hq => f2 q hq (fun z hz => nomatch hz)), hce, hO.vm, hcl, hWs, hall, hf⟩⟩
  refine st1 _ ?_
  show Steps p.tables e below (T1.setTop { method := m, pc := pc + 3, locals := ls, stack := .ref T.heap.size :: rest, locked := none }) _
  jvm_step X₁.here [X₁.here.top, hexec, d3', Value.category]
  exact X₁.ldcString hexec (own := own) (text := text) (index := is) (a := sa) hown' hstr'.1 hstr'.2
    (g := { method := m, pc := pc + 4, locals := ls, stack := .ref T.heap.size :: .ref T.heap.size :: rest, locked := none }) rfl d4' _ hsteps
/-- 'throw new E("text")', the text by a wide index -/
theorem vx_throwSW {cc : ByteArray} {pc : Nat} (hexec : p.tables.exec = Jvm.exec) (hb : c.code = cc) (hl : l.stackTraces = false) {own cls text : String} {names : List String} {ik is ic mc ms sa : Nat} {A : Nat → Prop}
    (hown : s.vm.findClass own = some m.cls) (hcls : Bundle.fit cls = true) (hnames : ∀ n ∈ names, Bundle.fit n = true)
    (hk : (Cond.classLink own ik cls).before args s = true) (hini : (Cond.initialized cls).before args s = true) (hstr : vk_R own is text sa s) (hat : ∀ w ∈ vx_atS own ic cls names, w.before args s = true)
    (hgood : ∀ w ∈ Cond.classLink own ik cls :: Cond.initialized cls :: vx_atS own ic cls names, vx_ot w = true)
    (hU : vx_Zq Bundle.tN "UNASSIGNED_STACK" Bundle.steD A s s.heap) (hN : vx_Zq Bundle.tN "SUPPRESSED_SENTINEL" Bundle.listD A s s.heap) (hS : va_S A s.heap H locs) (hsize : ls.size = c.maxLocals)
    (d0 : decode cc pc = .ok (.new ik, 3)) (d3 : decode cc (pc + 3) = .ok (.dup, 1)) (d4 : decode cc (pc + 4) = .ok (.ldc_w is, 3)) (d7 : decode cc (pc + 7) = .ok (.invokespecial ic, 3)) (d10 : decode cc (pc + 10) = .ok (.athrow, 1))
    (hout : ∀ x ∈ c.exceptionTable.toList, covers x (pc + 10) = false)
    (hRframes : names.length + 3 < R.frames) (hRlocals : (rest.map fun v => v.category).sum + (13 * (names.length + 1) + 43) ≤ R.locals) (hRcells : cells + 1 ≤ R.cells) (hRslots : slots + 6 ≤ R.slots) (hlocks : meth.locks = false)
    (hx : ∀ t : State, s.vm.Alike t.vm → H.size ≤ t.heap.size → (∀ q : Nat, q < H.size → t.heap[q]? = H[q]?) → XC cls s t)
    (hf : ∀ z ∈ locs, free z.base) (hc : cells + 1 ≤ mc) (hs : slots + 6 ≤ ms) :
    W p l e R s m args below meth c H locs cells slots (vx_MQ below Qc XC args s mc ms free) (F0 m pc ls rest) := by
  intro T hT X
  have htr : e.platform.stackTraces = false := (show e.platform.stackTraces = l.stackTraces by rw [X.admits.platform]).trans hl
  have Y := vx_rebase X (R' := { frames := R.frames, locals := R.locals, cells := 1, slots := 6 }) (Nat.le_refl _) (Nat.le_refl _) hRcells hRslots
  obtain ⟨s', hA⟩ : ∃ z, z = (T.setVm s.vm).setFrames (.invoking m args :: below) := ⟨_, rfl⟩
  rw [← hA] at Y
  have hvm : s'.vm = s.vm := by rw [hA]; rfl
  have hhp : s'.heap = H := by rw [hA]; exact hT
  have hW0 : s.WarmedH s'.vm := by rw [hvm]; exact State.WarmedH.refl s
  have hat' : ∀ w ∈ vx_atS own ic cls names, w.before args s' = true := fun w hw => vx_ot_at hW0 hvm.symm (hgood w (List.mem_cons_of_mem _ (List.mem_cons_of_mem _ hw))) (hat w hw)
  have hk' : (Cond.classLink own ik cls).before args s' = true := vx_ot_at hW0 hvm.symm (hgood _ List.mem_cons_self) hk
  have hini' : (Cond.initialized cls).before args s' = true := vx_ot_at hW0 hvm.symm (hgood _ (List.mem_cons_of_mem _ List.mem_cons_self)) hini
  have hU' : vx_Zq Bundle.tN "UNASSIGNED_STACK" Bundle.steD A s' s'.heap := by rw [hhp]; exact vx_Zq.moved hW0.alike (hU.kept hS.2.1)
  have hN' : vx_Zq Bundle.tN "SUPPRESSED_SENTINEL" Bundle.listD A s' s'.heap := by rw [hhp]; exact vx_Zq.moved hW0.alike (hN.kept hS.2.1)
  have h : ∀ w ∈ Bundle.ownAtoms own ic cls names, w.before args s' = true := vx_own hat' (vx_isRefq hU'.1) (vx_isRefq hN'.1) hU'.2.word hN'.2.word
  have hown' : s'.vm.findClass own = some m.cls := by rw [hvm]; exact hown
  have hins : (Cond.instantiable cls 6).before args s' = true := h _ (by simp [Bundle.ownAtoms])
  obtain ⟨vm₁, cX, kX, hfX, hkX, -, -, X₁, st1⟩ := Y.newCold hexec (own := own) (C := cls) (index := ik) (n := 6) hown' hk' hins hini'
    (g := F0 m pc ls rest) rfl (by rw [hb]; exact d0) (Nat.le_refl _) (Nat.le_refl _)
  generalize hT1 : (T.setVm vm₁).pushCell { cls := cX, slots := kX.instanceTypes.map defaultValue, vm := .none } = T1 at X₁ st1
  have hcat : (Value.ref T.heap.size).category = 1 := rfl
  have hcellA : T1.heap[T.heap.size]? = some (freshCell cX kX) := by rw [← hT1]; exact State.heap_pushCell_size _ _
  have d3' : decode c.code (pc + 3) = .ok (.dup, 1) := by rw [hb]; exact d3
  have d4' : decode c.code (pc + 4) = .ok (.ldc_w is, 3) := by rw [hb]; exact d4
  have hstr' : vk_R own is text sa s' := vk_R.warm hW0 hstr
  obtain ⟨U, hsteps, hrun, hend, hW, hsame, ce, hce, hO⟩ := X₁.ctorThrowS hexec htr (own := own) (cls := cls) (names := names) (ic := ic) hown' hcls hnames h (fun x hx => nomatch hx) hfX hkX hcellA (by rw [hhp, hT]; exact Nat.le_refl _) (msg := .ref sa) rfl
    (g := { method := m, pc := pc + 7, locals := ls, stack := .ref sa :: .ref T.heap.size :: .ref T.heap.size :: rest, locked := none }) rfl hsize rfl rfl (rest := rest) rfl
    (by rw [hb]; exact d7) (by rw [hb]; exact d10) hout hRframes (by simp only [List.map_cons, List.sum_cons, hcat]; omega) hlocks
  obtain ⟨f1, f2⟩ := vx_frame hsame
  rw [hhp] at f1 f2
  have hWs : s.WarmedH U.vm := State.WarmedH.trans hW0 hW
  have hcl : s.vm.findClass cls = some ce.cls := by
    have h9 := hO.cls
    rw [hvm] at h9
    exact h9
  have hall : s.sameButNew ({ U with vm := s.vm } : State) locs mc ms := by
    subst hA
    obtain ⟨e1, e2⟩ := hsame
    rw [State.setFrames_setFrames] at e1
    have h2 : (T.setVm s.vm).sameButNew ({ U with vm := s.vm } : State) [] (0 + 1) (0 + 6) := ⟨e1, e2⟩
    have h3 := X.same.trans h2
    rw [List.append_nil] at h3
    exact h3.mono hc hs
  refine ⟨U, ?_, .threw T.heap.size, hrun, hend, Or.inr ⟨T.heap.size, rfl, cls, ce, locs, hx U hWs.alike f1 (fun q hq => f2 q hq (fun z hz => nomatch hz)), hce, hO.vm, hcl, hWs, hall, hf⟩⟩
  refine st1 _ ?_
  show Steps p.tables e below (T1.setTop { method := m, pc := pc + 3, locals := ls, stack := .ref T.heap.size :: rest, locked := none }) _
  jvm_step X₁.here [X₁.here.top, hexec, d3', Value.category]
  exact X₁.ldcStringW hexec (own := own) (text := text) (index := is) (a := sa) hown' hstr'.1 hstr'.2
    (g := { method := m, pc := pc + 4, locals := ls, stack := .ref T.heap.size :: .ref T.heap.size :: rest, locked := none }) rfl d4' _ hsteps
end Ends
section Bodies
variable {l : Launch}
theorem vx_ofW {y : MethodName} {ws ws' : List Cond} {rm : Room} {Pc : Array Value → State → Prop} {Qc : Array Value → State → Outcome → State → Prop} {XC : String → State → State → Prop} {mc ms : Nat} {free : Addr → Prop} {cc : ByteArray} {maxL : Nat} {ret : Option FieldType}
    (hy : plainName y.cls = true) (hw : ws = Cond.code y cc maxL ret :: ws')
    (body : ∀ p e s m args below meth c s₁, BodyLoose p l y (headSpec ws rm) cc maxL ret e s m args below meth c s₁ → c.maxLocals = maxL → (∀ x ∈ c.exceptionTable.toList, False) → Pc args s →
      W p l e (headSpec ws rm).room s m args below meth c s.heap [] 0 0 (vx_MQ below Qc XC args s mc ms free) (entryFrame m args maxL)) : vx_Met l y ws rm Pc Qc XC mc ms free := by
  refine MetFree.of_bodyS (code := cc) (maxLocals := maxL) (ret := ret) hy ?_ ?_
  · intro args s m h hn
    obtain ⟨meth, c, h1, h2, h3, h4, h5, h6, -, -⟩ := Cond.code_spec hn (atoms_spec (ws := ws) h _ (by rw [hw]; exact List.mem_cons_self))
    exact ⟨meth, c, h1, h2, h3, h4, h5, h6⟩
  · intro p e s m args below meth c s₁ B hml hP _
    have hh0 : s₁.heap = s.heap := by rw [B.state]; rfl
    have ht : ∀ x ∈ c.exceptionTable.toList, False := by
      obtain ⟨meth9, c9, h1, h2, -, -, -, -, h7, -⟩ := Cond.code_spec B.named (atoms_spec (ws := ws) B.pre _ (by rw [hw]; exact List.mem_cons_self))
      cases Option.some.inj (h1.symm.trans B.method)
      cases Option.some.inj (h2.symm.trans (Stand.of_body B).code)
      intro x hx
      rw [Array.isEmpty_iff.mp h7] at hx
      cases hx
    obtain ⟨t, a1, o, b1, b2, b3⟩ := body p e s m args below meth c s₁ B hml ht hP s₁ hh0 (Stand.of_body B)
    exact ⟨t, o, a1, b1, b2, b3⟩
/-- the table of a body with handlers -/
theorem vx_table {p : Program} {x y : MethodName} {S : Spec} {cc bytes : ByteArray} {maxL maxL' : Nat} {ret ret' : Option FieldType} {e : Env} {s s₁ : State} {m : MethodId} {args : Array Value} {below : List Frame} {meth : Method} {c : Code} {hh : List (Nat × Nat × Nat × Nat)}
    (B : BodyLoose p l y S cc maxL ret e s m args below meth c s₁) (h : (Cond.codeWith y bytes maxL' ret' hh).before args s = true) : c.exceptionTable.toList = tableOf hh := by
  obtain ⟨m9, meth9, c9, hn9, h1, h2, -, -, h6, -⟩ := Cond.codeWith_spec h
  cases Option.some.inj (hn9.symm.trans B.named)
  cases Option.some.inj (h1.symm.trans B.method)
  cases Option.some.inj (h2.symm.trans (Stand.of_body B).code)
  rw [← h6, table_eq]
end Bodies
end VXA
/-! ===== END ===== -/
/-! ===== BEGIN a static call of a method with an exception table ===== -/
section VXS
variable {p : Program} {l : Launch} {e : Env} {R : Room} {s : State} {m : MethodId} {args : Array Value} {below : List Frame} {meth : Method} {c : Code} {T : State} {H : Heap} {locs : List Loc} {cells slots : Nat}
abbrev vx_CSW (R : Room) (s : State) (args : Array Value) (own : String) (index : Nat) (y : MethodName) (bytes : ByteArray) (maxL : Nat) (ret : Option FieldType) (hh : List (Nat × Nat × Nat × Nat)) (ws : List Cond) (rm : Room) (mc ms n : Nat) : Prop :=
  (rm.cells = mc ∧ rm.slots = ms ∧ rm.frames + 1 ≤ R.frames ∧ 8 + (maxL + 11) + rm.locals ≤ R.locals ∧ (∀ w ∈ ws, ∀ (a' : Array Value) (U : State), s.WarmedH U.vm → w.before a' U = true) ∧ Cond.codeWith y bytes maxL ret hh ∈ ws) ∧
  (Cond.codeWith y bytes maxL ret hh).before args s = true ∧ (Cond.initialized y.cls).before args s = true ∧ (y.cls ≠ "java/lang/invoke/MethodHandle" ∧ y.cls ≠ "java/lang/invoke/VarHandle") ∧
  (∀ sig, parseMethodDescriptor y.desc = some sig → n = sig.parameters.length) ∧ (Cond.methodLink own index y).before args s = true ∧ (Cond.static y).before args s = true
theorem vx_cwSW {own : String} {index maxL mc ms : Nat} {y : MethodName} {bytes : ByteArray} {ret : Option FieldType} {hh : List (Nat × Nat × Nat × Nat)} {Ts ws ws' : List Cond} {rm : Room} (n : Nat) (ht : ∀ w ∈ Ts, w.before args s = true) (hT : GoodIn Ts (va_wsS own index y ws)) (hw : ws = Cond.codeWith y bytes maxL ret hh :: ws') (hrc : rm.cells = mc) (hrs : rm.slots = ms)
    (hd : y.cls ≠ "java/lang/invoke/MethodHandle" ∧ y.cls ≠ "java/lang/invoke/VarHandle" ∧ (parseMethodDescriptor y.desc).map (fun d => d.parameters.length) = some n) (hR : rm.frames + 1 ≤ R.frames ∧ 8 + (maxL + 11) + rm.locals ≤ R.locals) :
    vx_CSW R s args own index y bytes maxL ret hh ws rm mc ms n := by
  have ok : ∀ w ∈ va_wsS own index y ws, w.before args s = true := fun w h => ht w (hT w h).1
  have hG : GoodIn Ts ws := fun w h => hT w (by unfold va_wsS; exact List.mem_append_right _ h)
  have hc : Cond.codeWith y bytes maxL ret hh ∈ ws := by rw [hw]; exact List.mem_cons_self
  refine ⟨⟨hrc, hrs, hR.1, hR.2, pay_in ht hG, hc⟩, ht _ (hG _ hc).1, ok _ (by simp [va_wsS]), ⟨hd.1, hd.2.1⟩, fun sig h => ?_, ok _ (by simp [va_wsS]), ok _ (by simp [va_wsS])⟩
  have h2 := hd.2.2
  rw [h] at h2
  exact (Option.some.inj h2).symm
theorem vx_callSW (X : Stand p l e R s m args below meth c T locs cells slots) (hexec : p.tables.exec = Jvm.exec) {own : String} {index : Nat} {y : MethodName} {bytes : ByteArray} {maxL : Nat} {ret : Option FieldType} {hh : List (Nat × Nat × Nat × Nat)}
    (hown : s.vm.findClass own = some m.cls) (hlink : (Cond.methodLink own index y).before args s = true) (hstat : (Cond.static y).before args s = true) (hinit : (Cond.initialized y.cls).before args s = true)
    (hcode : (Cond.codeWith y bytes maxL ret hh).before args s = true) (hy : y.cls ≠ "java/lang/invoke/MethodHandle" ∧ y.cls ≠ "java/lang/invoke/VarHandle")
    {W9 : Nat} {Pre : Pt → Array Value → Prop} {Post : Pt → Array Value → Option Value → Pt → Prop} (hK : Back l R p e below s args y 3 W9 Pre Post)
    {g : JFrame} (hg : g.method = m) (hsize : g.locals.size = c.maxLocals) {argsL rest : List Value} (hlen : ∀ sig, parseMethodDescriptor y.desc = some sig → argsL.length = sig.parameters.length)
    (hstack : g.stack = argsL.reverse ++ rest) (hW : 2 * g.monitorRoom + (rest.map fun v => v.category).sum ≤ W9) (hdg : decode c.code g.pc = .ok (.invokestatic index, 3))
    (hpre : ∀ vm₁, s.WarmedH vm₁ → Pre ⟨T.setVm vm₁, locs, cells, slots⟩ argsL.toArray) :
    ∃ (v : Option Value) (vm₁ : Vm) (B : Pt), s.WarmedH vm₁ ∧ Stand p l e R s m args below meth c B.U B.locs B.cells B.slots ∧ Post ⟨T.setVm vm₁, locs, cells, slots⟩ argsL.toArray v B ∧
      ∀ target, Steps p.tables e below (B.U.setTop { g with pc := g.pc + 3, stack := v.toList ++ rest }) target → Steps p.tables e below (T.setTop g) target := by
  obtain ⟨mk, methM, cM, hnamed, hmethM, -, -, -, -, -, -, hsigM⟩ := Cond.codeWith_spec hcode
  have hstatic : methM.isStatic = true := Cond.static_spec hnamed hmethM hstat
  obtain ⟨kP, hkP, -⟩ := className_of_methodNamed hnamed
  have hinitP : kP.init = .initialized := Cond.initialized_spec (findClass_of_methodNamed hnamed) hkP hinit
  obtain ⟨vm₁, X₁, hstep₁⟩ := X.invokestatic hexec hown hlink hnamed hmethM hstatic hkP hinitP hy (g := g) hg (argsL := argsL) (rest := rest) (hlen _ hsigM) hstack hdg
  obtain ⟨v, B, X', hpost, hsteps⟩ := hK m meth c ⟨T.setVm vm₁, locs, cells, slots⟩ { g with stack := rest } (.invokestatic index) mk argsL.toArray X₁ hg hsize hdg hW (X₁.named hnamed) (hpre vm₁ X₁.warmed)
  exact ⟨v, vm₁, B, X₁.warmed, X', hpost, fun target h => hstep₁ _ fun acts => by rw [doInvoke_state]; exact hsteps.trans h⟩
theorem vx_runSW {y : MethodName} {bytes cc : ByteArray} {maxL nL mc ms n index : Nat} {ret : Option FieldType} {hh : List (Nat × Nat × Nat × Nat)} {ws : List Cond} {rm : Room} {Pc : Array Value → State → Prop} {Qc : Array Value → State → Outcome → State → Prop} {free : Addr → Prop} {Ts : List Cond} {own : String} {As rest : List Value} {g : JFrame}
    (S : CallFix p m c cc nL s args Ts own) (hM : Met l y ws rm Pc Qc mc ms free) (cw : vx_CSW R s args own index y bytes maxL ret hh ws rm mc ms n) (hp : PreS s H Pc As)
    (hg : g.method = m) (hn : As.length = n) (hsize : g.locals.size = nL) (hstack : g.stack = As.reverse ++ rest) (hW : 2 * g.monitorRoom + (rest.map fun v => v.category).sum ≤ 8) (hdg : decode cc g.pc = .ok (.invokestatic index, 3)) (hf : cells + mc ≤ R.cells ∧ slots + ms ≤ R.slots) :
    va_Run p l e R s m args below meth c H locs cells slots mc ms g rest (Qc As.toArray) (free) := by
  obtain ⟨⟨hrc, hrs, hfr, hlo, hws, hcw⟩, hcode, hini, hy, hlen, hl, hstt⟩ := cw
  have hK : Back l R p e below s args y 3 8 (PreOf R mc ms Pc) (PostOf Qc mc ms free) := va_backW (hh := hh) (bytes := bytes) (maxL := maxL) (ret := ret) hM hp.1 hrc hrs hfr hlo hws hcw (fun a' U hW => word_at hW (Or.inl (by first | rfl | simp [Cond.onTables, Cond.keeps, Cond.steady])) hini)
  obtain ⟨hx, hb, hml, ho, -⟩ := S
  intro T hT X
  obtain ⟨v, vm₁, ⟨U', l2, c2, s2⟩, hW₁, X', ⟨g', mk, t, L, e1, e2, hq, h1, hL, h2, h3⟩, st⟩ := vx_callSW X hx (hh := hh) (bytes := bytes) (maxL := maxL) (ret := ret) ho hl hstt hini hcode hy hK hg (hsize.trans hml.symm) (argsL := As) (rest := rest) (fun sig h => hn.trans (hlen sig h)) hstack hW (by rw [hb]; exact hdg)
    (fun vm₁ hW₁ => ⟨hf.1, hf.2, hp.2 (T.setVm vm₁) hT hW₁⟩)
  dsimp only [Pt.U, Pt.locs, Pt.cells, Pt.slots] at X' e1 e2 h1 h2 h3 st
  subst h1; subst h2; subst h3
  exact ⟨v, (T.setVm vm₁).calling g' mk As.toArray, t, U', L, hT, X', hL, e1, e2, hq, st⟩
/-- not caught here, past rows that name other classes: it goes on to the caller -/
theorem vx_outP {p : Program} {l : Launch} {e : Env} {R : Room} {s : State} {m : MethodId} {args : Array Value} {below : List Frame} {meth : Method} {c : Code} {H : Heap} {locs : List Loc} {cells slots : Nat} {free : Addr → Prop} {ls : Array Slot} {rest : List Value} {Qc : Array Value → State → Outcome → State → Prop} {XC : String → State → State → Prop}
    {pc : Nat} {own E : String} {ce : Cell} {q : Addr} {mc ms : Nat} (hown : s.vm.findClass own = some m.cls) (hlocks : meth.locks = false)
    (hpass : ∀ z ∈ c.exceptionTable.toList, covers z pc = false ∨ (z.catchType ≠ 0 ∧ ∃ nm : String, (Cond.classLink own z.catchType nm).before args s = true ∧ va_Nc E nm s)) (hcell : H[q]? = some ce) (hv : ce.vm = .none) (hcl : s.vm.findClass E = some ce.cls)
    (hx : ∀ t : State, t.heap = H → s.vm.Alike t.vm → XC E s t) (hf : ∀ z ∈ locs, free z.base) (hc : cells ≤ mc) (hs : slots ≤ ms) :
    vx_W p l e R s m args below meth c H locs cells slots (vx_MQ below Qc XC args s mc ms free) (F0 m pc ls rest) q := by
  intro T hT X
  have hpl : e.platform.magicAccessors = ({} : Platform).magicAccessors := by rw [X.admits.platform]
  obtain ⟨vm', hW', X', st⟩ := X.outThrough hlocks q (g := F0 m pc ls rest) rfl rfl rfl (cell := ce) (by rw [hT]; exact hcell) (by rw [hv]; rfl)
    (by obtain ⟨k9, h9, -⟩ := Vm.findClass_spec hcl; exact ⟨k9, h9⟩) (fun z hz => by
      rcases hpass z hz with h | ⟨hz0, nm, hl1, hn1⟩
      · exact Or.inl h
      · obtain ⟨c6, hc6, hcl6⟩ := Cond.classLink_spec hown hl1 e.platform hpl
        obtain ⟨a8, b8, h1, h2, h3⟩ := hn1
        cases Option.some.inj (h1.symm.trans hcl)
        cases Option.some.inj (h2.symm.trans hc6)
        exact Or.inr ⟨hz0, _, hcl6, h3⟩)
  obtain ⟨g₀, hfr⟩ := X'.frames_eq
  have hcell9 : ((T.setVm vm').setFrames (.throwing q :: below)).heap[q]? = some ce := by
    show T.heap[q]? = some ce
    rw [hT]; exact hcell
  have hend : Ended ((T.setVm vm').setFrames (.throwing q :: below)) below (.threw q) := State.frames_setFrames _ (State.cur_lt_of_frames hfr)
  refine ⟨(T.setVm vm').setFrames (.throwing q :: below), ?_, .threw q, X'.here.running, hend, Or.inr ⟨q, rfl, E, ce, locs, hx _ hT (X'.ends _).1.alike, hcell9, hv, hcl, (X'.ends _).1, (X'.ends _).2.mono hc hs, hf⟩⟩
  rw [X.pushThrowing_eq]
  exact st
/-- a thing of a world lies in the heap -/
theorem vx_lt {D : va_G} {cl : List vw_C} {ws : va_W} {H1 : Heap} (h : va_P D cl ws H1) {k : Nat} {q : Nat × va_E} (hk : ws[k]? = some q) : q.1 < H1.size := (h k q hk).lt
end VXS
/-! ===== END ===== -/
end
-- 93.ey
section
/-! ===== what throws: facts ===== -/
theorem decode_out {code : ByteArray} {pc : Nat} (h : ¬ pc < code.size) : ∃ e, decode code pc = .error e := by
  have h1 : (Jvm.ClassFile.Reader.u1 : Jvm.ClassFile.Decoder Nat) code pc = .error (.truncated pc) := by
    unfold Jvm.ClassFile.Reader.u1
    show (dite (pc < code.size) (fun h => (do set (pc + 1); pure (code[pc]).toNat : Jvm.ClassFile.Decoder Nat)) (fun _ => throw (Jvm.ClassFile.HasTruncated.truncated pc))) code pc = _
    rw [dif_neg h]
    rfl
  have h2 : ∀ {β : Type} (f : Nat → Jvm.ClassFile.Decoder β), (bind Jvm.ClassFile.Reader.u1 f : Jvm.ClassFile.Decoder β) code pc = .error (.truncated pc) := by
    intro β f
    show Except.bind ((Jvm.ClassFile.Reader.u1 : Jvm.ClassFile.Decoder Nat) code pc) (fun x => f x.1 code x.2) = _
    rw [h1]
    rfl
  have h3 : (Jvm.ClassFile.Decoder.instr pc : Jvm.ClassFile.Decoder _) code pc = .error (.truncated pc) := h2 _
  refine ⟨.truncated pc, ?_⟩
  unfold decode
  show Except.bind ((Jvm.ClassFile.Decoder.instr pc : Jvm.ClassFile.Decoder _) code pc) _ = _
  rw [h3]
  rfl
def nseC : String := "java/util/NoSuchElementException"
def nseN : List String := ["java/lang/RuntimeException", "java/lang/Exception"]
def xt_L : List Cond := Cond.classLink RX2 128 nseC :: Cond.initialized nseC :: vx_at0 RX2 130 nseC nseN
def xt_B : List Cond := [.castable nseC nseC, .declares (Bundle.init0 "java/lang/RuntimeException"), .declares (Bundle.init0 "java/lang/Exception"), .declares (Bundle.init0 Bundle.tN)]
theorem xt_ot : xt_L.all vx_ot = true := by decide +kernel
theorem xt_bad : ∀ w ∈ xt_L.filter (fun w => !goodWord w), w ∈ xt_B := by decide +kernel
theorem xt_fit : Bundle.fit nseC = true := by decide +kernel
theorem xt_fits : ∀ n ∈ nseN, Bundle.fit n = true := by decide +kernel
theorem xt_tr {l : Launch} (h : l.flags = flags0) : l.stackTraces = false := by
  unfold Launch.stackTraces
  rw [h]
  decide +kernel
/-- where a method makes its exception, the class and the constructor are these -/
def xt_yb (code : ByteArray) (pc : Nat) : Bool := match decode code pc with
  | .ok (.new i, _) => Nat.beq i 128 && (match decode code (pc + 4) with
    | .ok (.invokespecial j, _) => Nat.beq j 130
    | _ => true)
  | _ => true
def xt_y (M : XI) : Prop := ∀ pc, pc < M.2.1.size → xt_yb M.2.1 pc = true
theorem xt_Y {M : XI} {pc : Nat} (h : xt_y M) (hy : xl_Y M pc) : decode M.2.1 pc = .ok (.new 128, 3) ∧ decode M.2.1 (pc + 3) = .ok (.dup, 1) ∧ decode M.2.1 (pc + 4) = .ok (.invokespecial 130, 3) ∧ decode M.2.1 (pc + 7) = .ok (.athrow, 1) := by
  obtain ⟨i, j, d0, d3, d4, d7⟩ := hy
  have hlt : pc < M.2.1.size := by
    apply Classical.byContradiction
    intro q
    obtain ⟨e, he⟩ := decode_out q
    rw [he] at d0
    cases d0
  have hb := h pc hlt
  unfold xt_yb at hb
  rw [d0] at hb
  simp only [d4, Bool.and_eq_true] at hb
  have e1 := Nat.eq_of_beq_eq_true hb.1
  have e2 := Nat.eq_of_beq_eq_true hb.2
  subst e1; subst e2
  exact ⟨d0, d3, d4, d7⟩
theorem yX2_source_y : xt_y mX2_source := by
  show ∀ pc, pc < 74 → _
  decide +kernel
theorem yX2_session_y : xt_y mX2_session := by
  show ∀ pc, pc < 102 → _
  decide +kernel
theorem yX2_message_y : xt_y mX2_message := by
  show ∀ pc, pc < 70 → _
  decide +kernel
theorem yX2_finals_y : xt_y mX2_finals := by
  show ∀ pc, pc < 52 → _
  decide +kernel
theorem yX2_input_y : xt_y mX2_input := by
  show ∀ pc, pc < 48 → _
  decide +kernel
theorem yX2_row_y : xt_y mX2_row := by
  show ∀ pc, pc < 36 → _
  decide +kernel
end
-- 94.ez
section
/-! ===== the words of the throw, by their places ===== -/
theorem xt_in : ∀ w ∈ xt_L.filter goodWord, w ∈ xl_T := xl_inp [774, 107, 104, 796, 805, 807, 810, 812, 797, 798, 115, 116, 799, 804, 808, 824, 786, 825, 788, 826, 790, 800, 802, 792, 814, 815, 816, 817, 817, 818, 819, 820, 820, 821, 822, 797, 813, 775, 783, 784, 785, 787, 789, 791, 795, 794, 793] (by decide +kernel) (by decide +kernel)
theorem xt_b0 : Cond.castable nseC nseC ∈ lw_tbl := List.mem_of_getElem? (i := 776) (by decide +kernel)
theorem xt_b1 : Cond.declares (Bundle.init0 "java/lang/RuntimeException") ∈ lw_tbl := List.mem_of_getElem? (i := 777) (by decide +kernel)
theorem xt_b2 : Cond.declares (Bundle.init0 "java/lang/Exception") ∈ lw_tbl := List.mem_of_getElem? (i := 779) (by decide +kernel)
theorem xt_b3 : Cond.declares (Bundle.init0 Bundle.tN) ∈ lw_tbl := List.mem_of_getElem? (i := 781) (by decide +kernel)
theorem xt_lU : Cond.laysStatic Bundle.tN "UNASSIGNED_STACK" Bundle.steD ∈ lw_tbl := List.mem_of_getElem? (i := 801) (by decide +kernel)
theorem xt_lN : Cond.laysStatic Bundle.tN "SUPPRESSED_SENTINEL" Bundle.listD ∈ lw_tbl := List.mem_of_getElem? (i := 803) (by decide +kernel)
theorem xt_iT : Cond.initialized Bundle.tN ∈ lw_tbl := List.mem_of_getElem? (i := 104) (by decide +kernel)
end
-- 95.fa
section
/-! ===== contracts of methods that may throw ===== -/
def xt_E (A : Nat → Prop) (U : State) : Prop := vx_Zq Bundle.tN "UNASSIGNED_STACK" Bundle.steD A U U.heap ∧ vx_Zq Bundle.tN "SUPPRESSED_SENTINEL" Bundle.listD A U U.heap ∧ va_Nw (.castable nseC nseC) U ∧ va_Nw (.declares (Bundle.init0 "java/lang/RuntimeException")) U ∧ va_Nw (.declares (Bundle.init0 "java/lang/Exception")) U ∧ va_Nw (.declares (Bundle.init0 Bundle.tN)) U
theorem xt_E.go {A B : Nat → Prop} {s U : State} (h : xt_E A s) (hW : s.WarmedH U.vm) (hq : ∀ a : Nat, a < s.heap.size → ¬ A a → U.heap[a]? = s.heap[a]?) (hAB : ∀ q, B q → A q) : xt_E B U :=
  ⟨((h.1.kept hq).moved hW.alike).narrow hAB, ((h.2.1.kept hq).moved hW.alike).narrow hAB, h.2.2.1.warmC hW, h.2.2.2.1.warmD hW, h.2.2.2.2.1.warmD hW, h.2.2.2.2.2.warmD hW⟩
theorem xt_E.same {A : Nat → Prop} {s U : State} (h : xt_E A s) (hv : s.vm = U.vm) (hh : U.heap = s.heap) : xt_E A U :=
  ⟨by rw [hh]; exact h.1.moved (by rw [hv]; exact Vm.Alike.refl _), by rw [hh]; exact h.2.1.moved (by rw [hv]; exact Vm.Alike.refl _), h.2.2.1.same rfl hv, h.2.2.2.1.same rfl hv, h.2.2.2.2.1.same rfl hv, h.2.2.2.2.2.same rfl hv⟩
def xt_rm : Room := { frames := 6, cells := 1, slots := 6, locals := 100 }
def xt_Pc (D : va_G) (aC : Nat → ClassId) (ρ σ aV : Nat → Nat) (sz : Nat) (As : List Value) (h : XH) : Array Value → State → Prop :=
  va_Pc (As.map (xl_v ρ σ)) (fun U => (U.heap.size = sz ∧ va_P D vwCl (xl_w aC ρ σ h) U.heap ∧ va_K D vwCl (xl_ty aC) U ∧ va_D (fun _ => True) (xl_w aC ρ σ h) ∧ xl_S σ aV (va_A (xl_w aC ρ σ h) sz) U U.heap) ∧ xt_E (va_A (xl_w aC ρ σ h) sz) U)
def xt_X (D : va_G) (aC : Nat → ClassId) (ρ σ : Nat → Nat) (A : Nat → Prop) (Pt : XH → Prop) : String → State → State → Prop := vx_X Pt (fun E h' t => E = nseC ∧ va_P D vwCl (xl_w aC ρ σ h') t.heap ∧ va_D A (xl_w aC ρ σ h')) A
def xt_C (μ : XI) (As : List Value) (h : XH) (PP : Option (Option Value) → XH → Prop) : Prop :=
  ∀ (l : Launch), l.flags = flags0 → ∀ (D : va_G) (aC : Nat → ClassId) (ρ σ aV : Nat → Nat) (sz : Nat), vx_Met l μ.1 (xl_ws μ) xt_rm (xt_Pc D aC ρ σ aV sz As h) (xl_Qc D aC ρ σ (va_A (xl_w aC ρ σ h) sz) (fun v h' => PP (some v) h')) (xt_X D aC ρ σ (va_A (xl_w aC ρ σ h) sz) (fun h' => PP none h')) 1 6 (va_A (xl_w aC ρ σ h) sz)
theorem xt_con {μ : XI} {As : List Value} {h : XH} {PP : Option (Option Value) → XH → Prop} (hk : xl_K μ) (hy : xt_y μ) (hcls : μ.1.cls = RX2) (hfr : μ.2.2.2.2.1 ≤ 6) (hlo : μ.2.2.2.2.2.1 ≤ 100) (L0 : List (Option Value)) (he : xl_e As μ.2.2.1 = L0) (hz : xl_z As ≤ μ.2.2.1) (hW : xl_W μ 1 6 0 L0 [] h PP) : xt_C μ As h PP := by
  intro l hl D aC ρ σ aV sz
  refine vx_ofW (cc := μ.2.1) (maxL := μ.2.2.1) (ret := μ.2.2.2.1) hk.1 rfl ?_
  intro p e s m args below meth c s₁ B hml htab hv
  obtain ⟨rfl, ⟨hsz, hP, hK, hD0, hE⟩, hX⟩ := hv
  have hts := atoms_spec (ws := xl_ws μ) B.pre
  have hT : ∀ w ∈ xl_T, w.before _ s = true := fun w hw => hts w (List.mem_cons_of_mem _ hw)
  have hown : s.vm.findClass μ.1.cls = some m.cls := findClass_of_methodNamed B.named
  have hlocks := B.notSynchronized
  subst hsz
  have hD := hD0.self (sz := s.heap.size)
  generalize hAe : va_A (xl_w aC ρ σ h) s.heap.size = A at hD hE hX ⊢
  have hA : ∀ q : Nat, s.heap.size ≤ q → A q := fun q h => by rw [← hAe]; exact Or.inr h
  have hS : va_S A s.heap s.heap [] := va_S.rf
  have hl0 := lv_entry (As.map (xl_v ρ σ)) (n := μ.2.2.1) (by rw [xl_z_eq]; exact hz)
  rw [lg_entry_eq]
  refine hW p l e _ s m _ below meth c D aC ρ σ aV A s.heap [] 0 0 _ _ ⟨B.exec, B.bytes, B.returns, hml, hown, hT, hlocks, hfr, hlo, hl⟩ ⟨hK, hP, hD, hS, hE, hA⟩ ⟨hl0.1, hl0.2.1, fun i v hi => ?_⟩ (by show 0 + 1 ≤ 1; omega) (by show 0 + 6 ≤ 6; omega) ?_ ?_
  · rw [← he] at hi
    have := xl_e_in (ρ := ρ) (σ := σ) As μ.2.2.1 0 i v hi
    rw [Nat.zero_add] at this
    exact hl0.2.2 _ this
  · intro v h' H' locs' pc' cells' slots' ls' hPo hH' hR hc1 hc2
    obtain ⟨hK', hP', hD', hS', hE', hA'⟩ := hH'
    refine vx_ret ?_
    refine W.widen (k := 1) (n := 6) (by omega) (by omega) ?_
    have fin : ∀ t : State, t.heap = H' → s.WarmedH t.vm → xl_Qc D aC ρ σ A (fun v h' => PP (some v) h') (As.map (xl_v ρ σ)).toArray s (.returned (v.map (xl_v ρ σ))) t := fun t ht hW => ⟨⟨v, h', rfl, hPo, by rw [ht]; exact hP', va_K.moved hW.alike hK', hD'⟩, hS'.F ht⟩
    match v, hR, fin with
    | none, hR, fin => exact W.vret B.exec B.bytes (B.returns.trans hR.1) fin hS'.2.2 hR.2 hlocks
    | some (.int a), hR, fin =>
      obtain ⟨⟨ty, e1, e2⟩, e3⟩ := hR
      exact W.zret B.exec B.bytes (B.returns.trans e1) e2 fin hS'.2.2 e3 hlocks
    | some (.long a), hR, fin => exact W.lret B.exec B.bytes (B.returns.trans hR.1) fin hS'.2.2 hR.2 hlocks
    | some (.float a), hR, fin =>
      obtain ⟨⟨n, e1⟩, e3⟩ := hR
      exact W.aret B.exec B.bytes (B.returns.trans e1) (Or.inl ⟨n, rfl⟩) (Or.inr ⟨_, rfl⟩) fin hS'.2.2 e3 hlocks
  · intro h' H' locs' pc' cells' slots' ls' hPt hH' hYY hc1 hc2 hls
    obtain ⟨hK', hP', hD', hS', hE', hA'⟩ := hH'
    obtain ⟨d0, d3, d4, d7⟩ := xt_Y hy hYY
    obtain ⟨x1, x2, x3, x4, x5, x6⟩ := hX
    have hall : ∀ w ∈ xt_L, w.before _ s = true := vx_hat (B := xt_B) (fun w hw => hT w (xt_in w hw)) xt_bad (vx_c (va_Nw.use rfl x3) (vx_c (va_Nw.use rfl x4) (vx_c (va_Nw.use rfl x5) (vx_c (va_Nw.use rfl x6) vx_n))))
    refine vx_throw0 (own := RX2) (cls := nseC) (names := nseN) (ik := 128) (ic := 130) (A := A) B.exec B.bytes (xt_tr hl) (by rw [← hcls]; exact hown) xt_fit xt_fits (hall _ List.mem_cons_self) (hall _ (List.mem_cons_of_mem _ List.mem_cons_self)) (fun w hw => hall w (List.mem_cons_of_mem _ (List.mem_cons_of_mem _ hw))) (fun w hw => List.all_eq_true.mp xt_ot w hw) x1 x2 hS' (hls.trans hml.symm) d0 d3 d4 d7 (fun x hx => (htab x hx).elim) (by show 5 < 6; decide) (by show 81 ≤ 100; decide) (by show cells' + 1 ≤ 1; omega) (by show slots' + 6 ≤ 6; omega) hlocks (fun t hal hz hk => ?_) hS'.2.2 (by omega) (by omega)
    exact ⟨h', hPt, ⟨rfl, hP'.kept (fun k q hq => hk _ (hP' k q hq).lt), hD'⟩, Nat.le_trans hS'.1 hz, fun q h1 h2 => (hk q (Nat.lt_of_lt_of_le h1 hS'.1)).trans (hS'.2.1 q h1 h2)⟩
section XTA
variable {p : Program} {l : Launch} {e : Env} {R : Room} {s : State} {m : MethodId} {args : Array Value} {below : List Frame} {meth : Method} {c : Code} {H : Heap} {locs : List Loc} {cells slots : Nat} {Q : State → Prop}
theorem xt_after {pc mc ms : Nat} {ls : Array Slot} {rest st0 : List Value} {a : Array Value} {A0 A1 free : Nat → Prop} {D : va_G} {aC : Nat → ClassId} {ρ σ : Nat → Nat} {Po : Option Value → XH → Prop} {Pt : XH → Prop}
    (hr : vx_Run p l e R s m args below meth c H locs cells slots mc ms (F0 m pc ls st0) rest (xl_Qc D aC ρ σ A1 Po a) (xt_X D aC ρ σ A1 Pt) free) (hS : va_S A0 s.heap H locs) (hA : ∀ q, q < H.size → A1 q → A0 q) (hf : ∀ q, free q → A0 q)
    (kx : ∀ (h' : XH) (q9 : Addr) (ce : Cell) (H1 : Heap) (locs1 : List Loc), Pt h' → va_P D vwCl (xl_w aC ρ σ h') H1 → va_D A1 (xl_w aC ρ σ h') → H.size ≤ H1.size → (∀ q : Nat, q < H.size → ¬ A1 q → H1[q]? = H[q]?) → va_S A0 s.heap H1 locs1 → H1[q9]? = some ce → ce.vm = .none → s.vm.findClass nseC = some ce.cls → vx_W p l e R s m args below meth c H1 locs1 (cells + mc) (slots + ms) Q (F0 m pc ls rest) q9)
    (kk : ∀ (v : Option Value) (h' : XH) (H1 : Heap) (locs1 : List Loc), Po v h' → va_P D vwCl (xl_w aC ρ σ h') H1 → va_D A1 (xl_w aC ρ σ h') → H.size ≤ H1.size → (∀ q : Nat, q < H.size → ¬ A1 q → H1[q]? = H[q]?) → va_S A0 s.heap H1 locs1 → W p l e R s m args below meth c H1 locs1 (cells + mc) (slots + ms) Q (F0 m (pc + 3) ls ((v.map (xl_v ρ σ)).toList ++ rest))) : W p l e R s m args below meth c H locs cells slots Q (F0 m pc ls st0) := by
  intro T hT X
  rcases hr T hT X with ⟨v, st₀, t, T', L, h0, X', hL, e1, e2, ⟨⟨v', h', hv, hp, hP1, hK1, hD1⟩, hF⟩, st⟩ | ⟨q, st₀, t, T', L, E, ce, h0, X', hL, e1, e2, ⟨h', hp, ⟨rfl, hP1, hD1⟩, hF⟩, hce, hcv, hcl, st⟩
  · cases hv
    obtain ⟨k1, k2, k3⟩ := vx_keep h0 e1 hS hA hf hL hF
    obtain ⟨t2, a1, b1⟩ := kk v' h' T'.heap (locs ++ L) hp (by rw [e1]; exact hP1) hD1 k1 k2 k3 T' rfl X'
    exact ⟨t2, st t2 a1, b1⟩
  · obtain ⟨k1, k2, k3⟩ := vx_keep h0 e1 hS hA hf hL hF
    obtain ⟨t2, a1, b1⟩ := kx h' q ce T'.heap (locs ++ L) hp (by rw [e1]; exact hP1) hD1 k1 k2 k3 (by rw [e1]; exact hce) hcv hcl T' rfl X'
    exact ⟨t2, st.trans a1, b1⟩
end XTA
end
-- 96.la
section
/-! ===== the law: words, by program ===== -/
def mL_source : XI := (yL_source, cL_source, 5, some .int, 7, 130, 4)
theorem cwL_source : Cond.codeWith yL_source cL_source 5 (some .int) [(0, 10, 13, 13)] ∈ xl_T := (wc_t3 195 rfl rfl)
theorem stL_source : Cond.static yL_source ∈ xl_T := (wc_t3 194 rfl rfl)
def mL_session : XI := (yL_session, cL_session, 5, some .int, 7, 130, 4)
theorem cwL_session : Cond.codeWith yL_session cL_session 5 (some .int) [(0, 10, 13, 13)] ∈ xl_T := (wc_t4 24 rfl rfl)
theorem stL_session : Cond.static yL_session ∈ xl_T := (wc_t4 23 rfl rfl)
def mL_message : XI := (yL_message, cL_message, 5, some .int, 7, 130, 4)
theorem cwL_message : Cond.codeWith yL_message cL_message 5 (some .int) [(0, 10, 13, 13)] ∈ xl_T := (wc_t4 34 rfl rfl)
theorem stL_message : Cond.static yL_message ∈ xl_T := (wc_t4 33 rfl rfl)
def mL_finals : XI := (yL_finals, cL_finals, 5, some .int, 7, 130, 4)
theorem cwL_finals : Cond.codeWith yL_finals cL_finals 5 (some .int) [(0, 10, 13, 13)] ∈ xl_T := (wc_t4 44 rfl rfl)
theorem stL_finals : Cond.static yL_finals ∈ xl_T := (wc_t4 43 rfl rfl)
def mL_input : XI := (yL_input, cL_input, 5, some .int, 7, 130, 4)
theorem cwL_input : Cond.codeWith yL_input cL_input 5 (some .int) [(0, 10, 13, 13)] ∈ xl_T := (wc_t4 51 rfl rfl)
theorem stL_input : Cond.static yL_input ∈ xl_T := (wc_t4 50 rfl rfl)
def mL_row : XI := (yL_row, cL_row, 4, some .int, 7, 130, 3)
theorem cwL_row : Cond.codeWith yL_row cL_row 4 (some .int) [(0, 8, 11, 13)] ∈ xl_T := (wc_t4 58 rfl rfl)
theorem stL_row : Cond.static yL_row ∈ xl_T := (wc_t4 57 rfl rfl)
def mL_law : XI := (yL_law, cL_law, 8, some .boolean, 12, 438, 1)
theorem xl_iL : Cond.initialized RL ∈ xl_T := (wc_t1 0 rfl rfl)
theorem ckL : Cond.classLink RL 13 nseC ∈ xl_T := (wc_t3 196 rfl rfl)
theorem lL_7 : Cond.methodLink RL 7 yX2_source ∈ xl_T := (wc_t3 197 rfl rfl)
theorem lL_15 : Cond.methodLink RL 15 yX2_session ∈ xl_T := (wc_t4 25 rfl rfl)
theorem lL_18 : Cond.methodLink RL 18 yX2_message ∈ xl_T := (wc_t4 35 rfl rfl)
theorem lL_21 : Cond.methodLink RL 21 yX2_finals ∈ xl_T := (wc_t4 45 rfl rfl)
theorem lL_24 : Cond.methodLink RL 24 yX2_input ∈ xl_T := (wc_t4 52 rfl rfl)
theorem lL_27 : Cond.methodLink RL 27 yX2_row ∈ xl_T := (wc_t4 59 rfl rfl)
theorem lL_31 : Cond.methodLink RL 31 yX2_init ∈ xl_T := (wc_t1 18 rfl rfl)
theorem lL_34 : Cond.methodLink RL 34 yX3_init ∈ xl_T := (wc_t4 76 rfl rfl)
theorem lL_35 : Cond.methodLink RL 35 yX2_sign ∈ xl_T := (wc_t1 182 rfl rfl)
theorem lL_39 : Cond.methodLink RL 39 yX3_sign ∈ xl_T := (wc_t4 63 rfl rfl)
theorem lL_40 : Cond.methodLink RL 40 yX2_end ∈ xl_T := (wc_t1 190 rfl rfl)
theorem lL_44 : Cond.methodLink RL 44 yX3_end ∈ xl_T := (wc_t4 67 rfl rfl)
theorem lL_45 : Cond.methodLink RL 45 yX2_start ∈ xl_T := (wc_t1 194 rfl rfl)
theorem lL_49 : Cond.methodLink RL 49 yX3_start ∈ xl_T := (wc_t4 167 rfl rfl)
theorem lL_50 : Cond.methodLink RL 50 yX2_delays ∈ xl_T := (wc_t1 217 rfl rfl)
theorem lL_53 : Cond.methodLink RL 53 yX3_delays ∈ xl_T := (wc_t4 185 rfl rfl)
theorem lL_54 : Cond.methodLink RL 54 yX2_event ∈ xl_T := (wc_t1 230 rfl rfl)
theorem lL_57 : Cond.methodLink RL 57 yX3_event ∈ xl_T := (wc_t4 198 rfl rfl)
theorem lL_58 : Cond.methodLink RL 58 yX2_events ∈ xl_T := (wc_t2 140 rfl rfl)
theorem lL_62 : Cond.methodLink RL 62 yX3_events ∈ xl_T := (wc_t5 69 rfl rfl)
theorem lL_63 : Cond.methodLink RL 63 yX2_marks ∈ xl_T := (wc_t2 230 rfl rfl)
theorem lL_66 : Cond.methodLink RL 66 yX3_marks ∈ xl_T := (wc_t5 94 rfl rfl)
theorem lL_67 : Cond.methodLink RL 67 yX2_idles ∈ xl_T := (wc_t3 6 rfl rfl)
theorem lL_70 : Cond.methodLink RL 70 yX3_idles ∈ xl_T := (wc_t5 111 rfl rfl)
theorem lL_71 : Cond.methodLink RL 71 yL_source ∈ xl_T := (wc_t3 193 rfl rfl)
theorem lL_76 : Cond.methodLink RL 76 yX3_source ∈ xl_T := (wc_t5 123 rfl rfl)
theorem lL_77 : Cond.methodLink RL 77 yL_session ∈ xl_T := (wc_t4 22 rfl rfl)
theorem lL_79 : Cond.methodLink RL 79 yX3_session ∈ xl_T := (wc_t5 127 rfl rfl)
theorem lL_80 : Cond.methodLink RL 80 yX2_at ∈ xl_T := (wc_t3 22 rfl rfl)
theorem lL_83 : Cond.methodLink RL 83 yX3_at ∈ xl_T := (wc_t5 132 rfl rfl)
theorem lL_84 : Cond.methodLink RL 84 yL_message ∈ xl_T := (wc_t4 32 rfl rfl)
theorem lL_86 : Cond.methodLink RL 86 yX3_message ∈ xl_T := (wc_t5 136 rfl rfl)
theorem lL_87 : Cond.methodLink RL 87 yX2_sent ∈ xl_T := (wc_t3 28 rfl rfl)
theorem lL_90 : Cond.methodLink RL 90 yX3_sent ∈ xl_T := (wc_t5 140 rfl rfl)
theorem lL_91 : Cond.methodLink RL 91 yX2_stands ∈ xl_T := (wc_t3 36 rfl rfl)
theorem lL_94 : Cond.methodLink RL 94 yX3_stands ∈ xl_T := (wc_t5 145 rfl rfl)
theorem lL_95 : Cond.methodLink RL 95 yX2_closed ∈ xl_T := (wc_t3 41 rfl rfl)
theorem lL_98 : Cond.methodLink RL 98 yX3_closed ∈ xl_T := (wc_t5 149 rfl rfl)
theorem lL_99 : Cond.methodLink RL 99 yL_finals ∈ xl_T := (wc_t4 42 rfl rfl)
theorem lL_101 : Cond.methodLink RL 101 yX3_finals ∈ xl_T := (wc_t5 156 rfl rfl)
theorem lL_102 : Cond.methodLink RL 102 yX2_kinds ∈ xl_T := (wc_t3 49 rfl rfl)
theorem lL_105 : Cond.methodLink RL 105 yX3_kinds ∈ xl_T := (wc_t5 161 rfl rfl)
theorem lL_106 : Cond.methodLink RL 106 yX2_slow ∈ xl_T := (wc_t3 53 rfl rfl)
theorem lL_109 : Cond.methodLink RL 109 yX3_slow ∈ xl_T := (wc_t5 165 rfl rfl)
theorem lL_110 : Cond.methodLink RL 110 yX2_span ∈ xl_T := (wc_t3 62 rfl rfl)
theorem lL_113 : Cond.methodLink RL 113 yX3_span ∈ xl_T := (wc_t5 169 rfl rfl)
theorem lL_114 : Cond.methodLink RL 114 yX2_taken ∈ xl_T := (wc_t3 70 rfl rfl)
theorem lL_117 : Cond.methodLink RL 117 yX3_taken ∈ xl_T := (wc_t5 177 rfl rfl)
theorem lL_118 : Cond.methodLink RL 118 yX2_holds ∈ xl_T := (wc_t3 74 rfl rfl)
theorem lL_121 : Cond.methodLink RL 121 yX3_holds ∈ xl_T := (wc_t5 181 rfl rfl)
theorem lL_122 : Cond.methodLink RL 122 yX2_next ∈ xl_T := (wc_t3 79 rfl rfl)
theorem lL_125 : Cond.methodLink RL 125 yX3_next ∈ xl_T := (wc_t5 185 rfl rfl)
theorem lL_126 : Cond.methodLink RL 126 yX2_ahead ∈ xl_T := (wc_t3 84 rfl rfl)
theorem lL_129 : Cond.methodLink RL 129 yX3_ahead ∈ xl_T := (wc_t5 189 rfl rfl)
theorem lL_130 : Cond.methodLink RL 130 yX2_would ∈ xl_T := (wc_t3 89 rfl rfl)
theorem lL_133 : Cond.methodLink RL 133 yX3_would ∈ xl_T := (wc_t5 193 rfl rfl)
theorem lL_134 : Cond.methodLink RL 134 yX2_batch ∈ xl_T := (wc_t3 94 rfl rfl)
theorem lL_137 : Cond.methodLink RL 137 yX3_batch ∈ xl_T := (wc_t5 197 rfl rfl)
theorem lL_138 : Cond.methodLink RL 138 yX2_latest ∈ xl_T := (wc_t3 110 rfl rfl)
theorem lL_141 : Cond.methodLink RL 141 yX3_latest ∈ xl_T := (wc_t5 214 rfl rfl)
theorem lL_142 : Cond.methodLink RL 142 yX2_parts ∈ xl_T := (wc_t3 114 rfl rfl)
theorem lL_145 : Cond.methodLink RL 145 yX3_parts ∈ xl_T := (wc_t5 209 rfl rfl)
theorem lL_146 : Cond.methodLink RL 146 yX2_again ∈ xl_T := (wc_t3 122 rfl rfl)
theorem lL_150 : Cond.methodLink RL 150 yX3_again ∈ xl_T := (wc_t5 226 rfl rfl)
theorem lL_151 : Cond.methodLink RL 151 yX2_without ∈ xl_T := (wc_t3 134 rfl rfl)
theorem lL_154 : Cond.methodLink RL 154 yX3_without ∈ xl_T := (wc_t5 230 rfl rfl)
theorem lL_155 : Cond.methodLink RL 155 yL_input ∈ xl_T := (wc_t4 49 rfl rfl)
theorem lL_157 : Cond.methodLink RL 157 yX3_input ∈ xl_T := (wc_t5 234 rfl rfl)
theorem lL_158 : Cond.methodLink RL 158 yX2_day ∈ xl_T := (wc_t3 138 rfl rfl)
theorem lL_161 : Cond.methodLink RL 161 yX3_day ∈ xl_T := (wc_t5 238 rfl rfl)
theorem lL_162 : Cond.methodLink RL 162 yX2_undo ∈ xl_T := (wc_t3 166 rfl rfl)
theorem lL_165 : Cond.methodLink RL 165 yX3_undo ∈ xl_T := (wc_t4 159 rfl rfl)
theorem lL_166 : Cond.methodLink RL 166 yX2_years ∈ xl_T := (wc_t3 170 rfl rfl)
theorem lL_169 : Cond.methodLink RL 169 yX3_years ∈ xl_T := (wc_t6 11 rfl rfl)
theorem lL_170 : Cond.methodLink RL 170 yX2_keep ∈ xl_T := (wc_t3 181 rfl rfl)
theorem lL_173 : Cond.methodLink RL 173 yX3_keep ∈ xl_T := (wc_t6 21 rfl rfl)
theorem lL_174 : Cond.methodLink RL 174 yX2_back ∈ xl_T := (wc_t3 185 rfl rfl)
theorem lL_177 : Cond.methodLink RL 177 yX3_back ∈ xl_T := (wc_t6 25 rfl rfl)
theorem lL_178 : Cond.methodLink RL 178 yX2_count ∈ xl_T := (wc_t3 189 rfl rfl)
theorem lL_181 : Cond.methodLink RL 181 yX3_count ∈ xl_T := (wc_t6 29 rfl rfl)
theorem lL_182 : Cond.methodLink RL 182 yL_row ∈ xl_T := (wc_t4 56 rfl rfl)
theorem lL_185 : Cond.methodLink RL 185 yX3_row ∈ xl_T := (wc_t6 33 rfl rfl)
end
-- 960.lb
section
theorem iL_source_0 : xl_D mL_source 0 (.aload_n 3) 1 1 := ⟨zd zq_446 (by decide +kernel), rfl⟩
theorem iL_source_1 : xl_D mL_source 1 (.iconst 0) 1 2 := ⟨zd zq_2 (by decide +kernel), rfl⟩
theorem iL_source_2 : xl_D mL_source 2 (.aload_n 0) 1 3 := ⟨zd zq_0 (by decide +kernel), rfl⟩
theorem iL_source_3 : xl_D mL_source 3 (.iload_n 1) 1 4 := ⟨zd zq_3 (by decide +kernel), rfl⟩
theorem iL_source_4 : xl_D mL_source 4 (.iload_n 2) 1 5 := ⟨zd zq_6 (by decide +kernel), rfl⟩
theorem iL_source_5 : xl_D mL_source 5 (.invokevirtual 7) 3 8 := ⟨zd zq_748 (by decide +kernel), rfl⟩
theorem iL_source_8 : xl_D mL_source 8 (.i2l) 1 9 := ⟨zd zq_266 (by decide +kernel), rfl⟩
theorem iL_source_9 : xl_D mL_source 9 (.lastore) 1 10 := ⟨zd zq_433 (by decide +kernel), rfl⟩
theorem iL_source_10 : xl_J mL_source 10 (fun o => .goto o) 13 17 := ⟨7, zd zq_696 (by decide +kernel), rfl, rfl⟩
theorem iL_source_13 : xl_D mL_source 13 (.astore 4) 2 15 := ⟨zd zq_458 (by decide +kernel), rfl⟩
theorem iL_source_15 : xl_D mL_source 15 (.iconst 1) 1 16 := ⟨zd zq_36 (by decide +kernel), rfl⟩
theorem iL_source_16 : xl_D mL_source 16 (.ireturn) 1 17 := ⟨zd zq_17 (by decide +kernel), rfl⟩
theorem iL_source_17 : xl_D mL_source 17 (.iconst 0) 1 18 := ⟨zd zq_2 (by decide +kernel), rfl⟩
theorem iL_source_18 : xl_D mL_source 18 (.ireturn) 1 19 := ⟨zd zq_17 (by decide +kernel), rfl⟩
theorem iL_session_0 : xl_D mL_session 0 (.aload_n 3) 1 1 := ⟨zd zq_446 (by decide +kernel), rfl⟩
theorem iL_session_1 : xl_D mL_session 1 (.iconst 0) 1 2 := ⟨zd zq_2 (by decide +kernel), rfl⟩
theorem iL_session_2 : xl_D mL_session 2 (.aload_n 0) 1 3 := ⟨zd zq_0 (by decide +kernel), rfl⟩
theorem iL_session_3 : xl_D mL_session 3 (.iload_n 1) 1 4 := ⟨zd zq_3 (by decide +kernel), rfl⟩
theorem iL_session_4 : xl_D mL_session 4 (.iload_n 2) 1 5 := ⟨zd zq_6 (by decide +kernel), rfl⟩
theorem iL_session_5 : xl_D mL_session 5 (.invokevirtual 15) 3 8 := ⟨zd zq_749 (by decide +kernel), rfl⟩
theorem iL_session_8 : xl_D mL_session 8 (.i2l) 1 9 := ⟨zd zq_266 (by decide +kernel), rfl⟩
theorem iL_session_9 : xl_D mL_session 9 (.lastore) 1 10 := ⟨zd zq_433 (by decide +kernel), rfl⟩
theorem iL_session_10 : xl_J mL_session 10 (fun o => .goto o) 13 17 := ⟨7, zd zq_696 (by decide +kernel), rfl, rfl⟩
theorem iL_session_13 : xl_D mL_session 13 (.astore 4) 2 15 := ⟨zd zq_458 (by decide +kernel), rfl⟩
theorem iL_session_15 : xl_D mL_session 15 (.iconst 1) 1 16 := ⟨zd zq_36 (by decide +kernel), rfl⟩
theorem iL_session_16 : xl_D mL_session 16 (.ireturn) 1 17 := ⟨zd zq_17 (by decide +kernel), rfl⟩
theorem iL_session_17 : xl_D mL_session 17 (.iconst 0) 1 18 := ⟨zd zq_2 (by decide +kernel), rfl⟩
theorem iL_session_18 : xl_D mL_session 18 (.ireturn) 1 19 := ⟨zd zq_17 (by decide +kernel), rfl⟩
theorem iL_message_0 : xl_D mL_message 0 (.aload_n 3) 1 1 := ⟨zd zq_446 (by decide +kernel), rfl⟩
theorem iL_message_1 : xl_D mL_message 1 (.iconst 0) 1 2 := ⟨zd zq_2 (by decide +kernel), rfl⟩
theorem iL_message_2 : xl_D mL_message 2 (.aload_n 0) 1 3 := ⟨zd zq_0 (by decide +kernel), rfl⟩
theorem iL_message_3 : xl_D mL_message 3 (.iload_n 1) 1 4 := ⟨zd zq_3 (by decide +kernel), rfl⟩
theorem iL_message_4 : xl_D mL_message 4 (.iload_n 2) 1 5 := ⟨zd zq_6 (by decide +kernel), rfl⟩
theorem iL_message_5 : xl_D mL_message 5 (.invokevirtual 18) 3 8 := ⟨zd zq_750 (by decide +kernel), rfl⟩
theorem iL_message_8 : xl_D mL_message 8 (.i2l) 1 9 := ⟨zd zq_266 (by decide +kernel), rfl⟩
theorem iL_message_9 : xl_D mL_message 9 (.lastore) 1 10 := ⟨zd zq_433 (by decide +kernel), rfl⟩
theorem iL_message_10 : xl_J mL_message 10 (fun o => .goto o) 13 17 := ⟨7, zd zq_696 (by decide +kernel), rfl, rfl⟩
theorem iL_message_13 : xl_D mL_message 13 (.astore 4) 2 15 := ⟨zd zq_458 (by decide +kernel), rfl⟩
theorem iL_message_15 : xl_D mL_message 15 (.iconst 1) 1 16 := ⟨zd zq_36 (by decide +kernel), rfl⟩
theorem iL_message_16 : xl_D mL_message 16 (.ireturn) 1 17 := ⟨zd zq_17 (by decide +kernel), rfl⟩
theorem iL_message_17 : xl_D mL_message 17 (.iconst 0) 1 18 := ⟨zd zq_2 (by decide +kernel), rfl⟩
theorem iL_message_18 : xl_D mL_message 18 (.ireturn) 1 19 := ⟨zd zq_17 (by decide +kernel), rfl⟩
theorem iL_finals_0 : xl_D mL_finals 0 (.aload_n 3) 1 1 := ⟨zd zq_446 (by decide +kernel), rfl⟩
theorem iL_finals_1 : xl_D mL_finals 1 (.iconst 0) 1 2 := ⟨zd zq_2 (by decide +kernel), rfl⟩
theorem iL_finals_2 : xl_D mL_finals 2 (.aload_n 0) 1 3 := ⟨zd zq_0 (by decide +kernel), rfl⟩
theorem iL_finals_3 : xl_D mL_finals 3 (.iload_n 1) 1 4 := ⟨zd zq_3 (by decide +kernel), rfl⟩
theorem iL_finals_4 : xl_D mL_finals 4 (.iload_n 2) 1 5 := ⟨zd zq_6 (by decide +kernel), rfl⟩
theorem iL_finals_5 : xl_D mL_finals 5 (.invokevirtual 21) 3 8 := ⟨zd zq_751 (by decide +kernel), rfl⟩
theorem iL_finals_8 : xl_D mL_finals 8 (.i2l) 1 9 := ⟨zd zq_266 (by decide +kernel), rfl⟩
theorem iL_finals_9 : xl_D mL_finals 9 (.lastore) 1 10 := ⟨zd zq_433 (by decide +kernel), rfl⟩
theorem iL_finals_10 : xl_J mL_finals 10 (fun o => .goto o) 13 17 := ⟨7, zd zq_696 (by decide +kernel), rfl, rfl⟩
theorem iL_finals_13 : xl_D mL_finals 13 (.astore 4) 2 15 := ⟨zd zq_458 (by decide +kernel), rfl⟩
theorem iL_finals_15 : xl_D mL_finals 15 (.iconst 1) 1 16 := ⟨zd zq_36 (by decide +kernel), rfl⟩
theorem iL_finals_16 : xl_D mL_finals 16 (.ireturn) 1 17 := ⟨zd zq_17 (by decide +kernel), rfl⟩
theorem iL_finals_17 : xl_D mL_finals 17 (.iconst 0) 1 18 := ⟨zd zq_2 (by decide +kernel), rfl⟩
theorem iL_finals_18 : xl_D mL_finals 18 (.ireturn) 1 19 := ⟨zd zq_17 (by decide +kernel), rfl⟩
theorem iL_input_0 : xl_D mL_input 0 (.aload_n 3) 1 1 := ⟨zd zq_446 (by decide +kernel), rfl⟩
theorem iL_input_1 : xl_D mL_input 1 (.iconst 0) 1 2 := ⟨zd zq_2 (by decide +kernel), rfl⟩
theorem iL_input_2 : xl_D mL_input 2 (.aload_n 0) 1 3 := ⟨zd zq_0 (by decide +kernel), rfl⟩
theorem iL_input_3 : xl_D mL_input 3 (.iload_n 1) 1 4 := ⟨zd zq_3 (by decide +kernel), rfl⟩
theorem iL_input_4 : xl_D mL_input 4 (.iload_n 2) 1 5 := ⟨zd zq_6 (by decide +kernel), rfl⟩
theorem iL_input_5 : xl_D mL_input 5 (.invokevirtual 24) 3 8 := ⟨zd zq_752 (by decide +kernel), rfl⟩
theorem iL_input_8 : xl_D mL_input 8 (.i2l) 1 9 := ⟨zd zq_266 (by decide +kernel), rfl⟩
theorem iL_input_9 : xl_D mL_input 9 (.lastore) 1 10 := ⟨zd zq_433 (by decide +kernel), rfl⟩
theorem iL_input_10 : xl_J mL_input 10 (fun o => .goto o) 13 17 := ⟨7, zd zq_696 (by decide +kernel), rfl, rfl⟩
theorem iL_input_13 : xl_D mL_input 13 (.astore 4) 2 15 := ⟨zd zq_458 (by decide +kernel), rfl⟩
theorem iL_input_15 : xl_D mL_input 15 (.iconst 1) 1 16 := ⟨zd zq_36 (by decide +kernel), rfl⟩
theorem iL_input_16 : xl_D mL_input 16 (.ireturn) 1 17 := ⟨zd zq_17 (by decide +kernel), rfl⟩
theorem iL_input_17 : xl_D mL_input 17 (.iconst 0) 1 18 := ⟨zd zq_2 (by decide +kernel), rfl⟩
theorem iL_input_18 : xl_D mL_input 18 (.ireturn) 1 19 := ⟨zd zq_17 (by decide +kernel), rfl⟩
theorem iL_row_0 : xl_D mL_row 0 (.aload_n 2) 1 1 := ⟨zd zq_48 (by decide +kernel), rfl⟩
theorem iL_row_1 : xl_D mL_row 1 (.iconst 0) 1 2 := ⟨zd zq_2 (by decide +kernel), rfl⟩
theorem iL_row_2 : xl_D mL_row 2 (.aload_n 0) 1 3 := ⟨zd zq_0 (by decide +kernel), rfl⟩
theorem iL_row_3 : xl_D mL_row 3 (.iload_n 1) 1 4 := ⟨zd zq_3 (by decide +kernel), rfl⟩
theorem iL_row_4 : xl_D mL_row 4 (.invokevirtual 27) 3 7 := ⟨zd zq_753 (by decide +kernel), rfl⟩
theorem iL_row_7 : xl_D mL_row 7 (.lastore) 1 8 := ⟨zd zq_433 (by decide +kernel), rfl⟩
theorem iL_row_8 : xl_J mL_row 8 (fun o => .goto o) 11 14 := ⟨6, zd zq_364 (by decide +kernel), rfl, rfl⟩
theorem iL_row_11 : xl_D mL_row 11 (.astore_n 3) 1 12 := ⟨zd zq_754 (by decide +kernel), rfl⟩
theorem iL_row_12 : xl_D mL_row 12 (.iconst 1) 1 13 := ⟨zd zq_36 (by decide +kernel), rfl⟩
theorem iL_row_13 : xl_D mL_row 13 (.ireturn) 1 14 := ⟨zd zq_17 (by decide +kernel), rfl⟩
theorem iL_row_14 : xl_D mL_row 14 (.iconst 0) 1 15 := ⟨zd zq_2 (by decide +kernel), rfl⟩
theorem iL_row_15 : xl_D mL_row 15 (.ireturn) 1 16 := ⟨zd zq_17 (by decide +kernel), rfl⟩
theorem iL_law_0 : xn_Nw mL_law 0 2 dfX2 13 3 := ⟨8, RX2, TX2, tyX2, zd zq_755 (by decide +kernel), rfl, rfl, xl_inX2, (wc_t1 16 rfl rfl), inX2, xl_iX2, tyX2_ok, dfX2_ok⟩
theorem iL_law_3 : xl_D mL_law 3 (.dup) 1 4 := ⟨zd zq_46 (by decide +kernel), rfl⟩
theorem iL_law_4 : xn_Ci mL_law 4 mX2_init 7 := ⟨31, zd zq_756 (by decide +kernel), rfl, lL_31, Nat.le_of_ble_eq_true rfl, Nat.le_of_ble_eq_true rfl⟩
theorem iL_law_7 : xl_D mL_law 7 (.astore_n 1) 1 8 := ⟨zd zq_474 (by decide +kernel), rfl⟩
theorem iL_law_8 : xn_Nw mL_law 8 3 dfX3 23 11 := ⟨32, RX3, TX3, tyX3, zd zq_757 (by decide +kernel), rfl, rfl, xl_inX3, (wc_t4 74 rfl rfl), inX3, xl_iX3, tyX3_ok, dfX3_ok⟩
theorem iL_law_11 : xl_D mL_law 11 (.dup) 1 12 := ⟨zd zq_46 (by decide +kernel), rfl⟩
theorem iL_law_12 : xn_Ci mL_law 12 mX3_init 15 := ⟨34, zd zq_758 (by decide +kernel), rfl, lL_34, Nat.le_of_ble_eq_true rfl, Nat.le_of_ble_eq_true rfl⟩
theorem iL_law_15 : xl_D mL_law 15 (.astore_n 2) 1 16 := ⟨zd zq_407 (by decide +kernel), rfl⟩
theorem iL_law_16 : xl_D mL_law 16 (.iconst 1) 1 17 := ⟨zd zq_36 (by decide +kernel), rfl⟩
theorem iL_law_17 : xl_D mL_law 17 (.newarray .long) 2 19 := ⟨by decide +kernel, rfl⟩
theorem iL_law_19 : xl_D mL_law 19 (.astore_n 3) 1 20 := ⟨zd zq_754 (by decide +kernel), rfl⟩
theorem iL_law_20 : xl_D mL_law 20 (.iconst 0) 1 21 := ⟨zd zq_2 (by decide +kernel), rfl⟩
theorem iL_law_21 : xl_D mL_law 21 (.istore 4) 2 23 := ⟨zd zq_50 (by decide +kernel), rfl⟩
theorem iL_law_23 : xl_D mL_law 23 (.iload 4) 2 25 := ⟨zd zq_51 (by decide +kernel), rfl⟩
theorem iL_law_25 : xl_D mL_law 25 (.aload_n 0) 1 26 := ⟨zd zq_0 (by decide +kernel), rfl⟩
theorem iL_law_26 : xl_D mL_law 26 (.arraylength) 1 27 := ⟨zd zq_58 (by decide +kernel), rfl⟩
theorem iL_law_27 : xl_D mL_law 27 (.iconst 5) 1 28 := ⟨zd zq_64 (by decide +kernel), rfl⟩
theorem iL_law_28 : xl_D mL_law 28 (.isub) 1 29 := ⟨zd zq_39 (by decide +kernel), rfl⟩
theorem iL_law_29 : xl_J mL_law 29 (fun o => .if_icmp .gt o) 32 1305 := ⟨1276, zd zq_759 (by decide +kernel), rfl, rfl⟩
theorem iL_law_32 : xl_D mL_law 32 (.aload_n 0) 1 33 := ⟨zd zq_0 (by decide +kernel), rfl⟩
theorem iL_law_33 : xl_D mL_law 33 (.iload 4) 2 35 := ⟨zd zq_51 (by decide +kernel), rfl⟩
theorem iL_law_35 : xl_D mL_law 35 (.iaload) 1 36 := ⟨zd zq_20 (by decide +kernel), rfl⟩
theorem iL_law_36 : xl_D mL_law 36 (.bipush 63) 2 38 := ⟨zd zq_760 (by decide +kernel), rfl⟩
theorem iL_law_38 : xl_D mL_law 38 (.iand) 1 39 := ⟨zd zq_240 (by decide +kernel), rfl⟩
theorem iL_law_39 : xl_D mL_law 39 (.tableswitch 1260 0 36 #[161, 186, 211, 272, 309, 370, 383, 420, 445, 485, 525, 562, 602, 627, 640, 665, 705, 730, 743, 780, 793, 806, 819, 844, 905, 930, 943, 980, 1029, 1054, 1094, 1107, 1120, 1157, 1182, 1207, 1232]) 161 200 := ⟨by decide +kernel, rfl⟩
theorem iL_law_200 : xl_D mL_law 200 (.aload_n 1) 1 201 := ⟨zd zq_56 (by decide +kernel), rfl⟩
theorem iL_law_201 : xl_D mL_law 201 (.aload_n 0) 1 202 := ⟨zd zq_0 (by decide +kernel), rfl⟩
theorem iL_law_202 : xl_D mL_law 202 (.iload 4) 2 204 := ⟨zd zq_51 (by decide +kernel), rfl⟩
theorem iL_law_204 : xl_D mL_law 204 (.iconst 1) 1 205 := ⟨zd zq_36 (by decide +kernel), rfl⟩
theorem iL_law_205 : xl_D mL_law 205 (.iadd) 1 206 := ⟨zd zq_19 (by decide +kernel), rfl⟩
theorem iL_law_206 : xl_D mL_law 206 (.iaload) 1 207 := ⟨zd zq_20 (by decide +kernel), rfl⟩
theorem iL_law_207 : xl_Ca mL_law 207 mX2_sign 210 := ⟨35, zd zq_43 (by decide +kernel), rfl, lL_35, Nat.le_of_ble_eq_true rfl, Nat.le_of_ble_eq_true rfl⟩
theorem iL_law_210 : xl_D mL_law 210 (.pop) 1 211 := ⟨zd zq_95 (by decide +kernel), rfl⟩
theorem iL_law_211 : xl_D mL_law 211 (.aload_n 2) 1 212 := ⟨zd zq_48 (by decide +kernel), rfl⟩
theorem iL_law_212 : xl_D mL_law 212 (.aload_n 0) 1 213 := ⟨zd zq_0 (by decide +kernel), rfl⟩
theorem iL_law_213 : xl_D mL_law 213 (.iload 4) 2 215 := ⟨zd zq_51 (by decide +kernel), rfl⟩
theorem iL_law_215 : xl_D mL_law 215 (.iconst 1) 1 216 := ⟨zd zq_36 (by decide +kernel), rfl⟩
theorem iL_law_216 : xl_D mL_law 216 (.iadd) 1 217 := ⟨zd zq_19 (by decide +kernel), rfl⟩
theorem iL_law_217 : xl_D mL_law 217 (.iaload) 1 218 := ⟨zd zq_20 (by decide +kernel), rfl⟩
theorem iL_law_218 : xl_Ca mL_law 218 mX3_sign 221 := ⟨39, zd zq_53 (by decide +kernel), rfl, lL_39, Nat.le_of_ble_eq_true rfl, Nat.le_of_ble_eq_true rfl⟩
theorem iL_law_221 : xl_D mL_law 221 (.pop) 1 222 := ⟨zd zq_95 (by decide +kernel), rfl⟩
theorem iL_law_222 : xl_J mL_law 222 (fun o => .goto o) 225 1299 := ⟨1077, zd zq_761 (by decide +kernel), rfl, rfl⟩
theorem iL_law_225 : xl_D mL_law 225 (.aload_n 1) 1 226 := ⟨zd zq_56 (by decide +kernel), rfl⟩
theorem iL_law_226 : xl_D mL_law 226 (.aload_n 0) 1 227 := ⟨zd zq_0 (by decide +kernel), rfl⟩
theorem iL_law_227 : xl_D mL_law 227 (.iload 4) 2 229 := ⟨zd zq_51 (by decide +kernel), rfl⟩
theorem iL_law_229 : xl_D mL_law 229 (.iconst 1) 1 230 := ⟨zd zq_36 (by decide +kernel), rfl⟩
theorem iL_law_230 : xl_D mL_law 230 (.iadd) 1 231 := ⟨zd zq_19 (by decide +kernel), rfl⟩
theorem iL_law_231 : xl_D mL_law 231 (.iaload) 1 232 := ⟨zd zq_20 (by decide +kernel), rfl⟩
theorem iL_law_232 : xl_Ca mL_law 232 mX2_end 235 := ⟨40, zd zq_762 (by decide +kernel), rfl, lL_40, Nat.le_of_ble_eq_true rfl, Nat.le_of_ble_eq_true rfl⟩
theorem iL_law_235 : xl_D mL_law 235 (.pop) 1 236 := ⟨zd zq_95 (by decide +kernel), rfl⟩
theorem iL_law_236 : xl_D mL_law 236 (.aload_n 2) 1 237 := ⟨zd zq_48 (by decide +kernel), rfl⟩
theorem iL_law_237 : xl_D mL_law 237 (.aload_n 0) 1 238 := ⟨zd zq_0 (by decide +kernel), rfl⟩
theorem iL_law_238 : xl_D mL_law 238 (.iload 4) 2 240 := ⟨zd zq_51 (by decide +kernel), rfl⟩
theorem iL_law_240 : xl_D mL_law 240 (.iconst 1) 1 241 := ⟨zd zq_36 (by decide +kernel), rfl⟩
theorem iL_law_241 : xl_D mL_law 241 (.iadd) 1 242 := ⟨zd zq_19 (by decide +kernel), rfl⟩
theorem iL_law_242 : xl_D mL_law 242 (.iaload) 1 243 := ⟨zd zq_20 (by decide +kernel), rfl⟩
theorem iL_law_243 : xl_Ca mL_law 243 mX3_end 246 := ⟨44, zd zq_241 (by decide +kernel), rfl, lL_44, Nat.le_of_ble_eq_true rfl, Nat.le_of_ble_eq_true rfl⟩
theorem iL_law_246 : xl_D mL_law 246 (.pop) 1 247 := ⟨zd zq_95 (by decide +kernel), rfl⟩
theorem iL_law_247 : xl_J mL_law 247 (fun o => .goto o) 250 1299 := ⟨1052, zd zq_763 (by decide +kernel), rfl, rfl⟩
theorem iL_law_250 : xl_D mL_law 250 (.aload_n 1) 1 251 := ⟨zd zq_56 (by decide +kernel), rfl⟩
theorem iL_law_251 : xl_D mL_law 251 (.aload_n 0) 1 252 := ⟨zd zq_0 (by decide +kernel), rfl⟩
theorem iL_law_252 : xl_D mL_law 252 (.iload 4) 2 254 := ⟨zd zq_51 (by decide +kernel), rfl⟩
theorem iL_law_254 : xl_D mL_law 254 (.iconst 1) 1 255 := ⟨zd zq_36 (by decide +kernel), rfl⟩
theorem iL_law_255 : xl_D mL_law 255 (.iadd) 1 256 := ⟨zd zq_19 (by decide +kernel), rfl⟩
theorem iL_law_256 : xl_D mL_law 256 (.iaload) 1 257 := ⟨zd zq_20 (by decide +kernel), rfl⟩
theorem iL_law_257 : xl_D mL_law 257 (.aload_n 0) 1 258 := ⟨zd zq_0 (by decide +kernel), rfl⟩
theorem iL_law_258 : xl_D mL_law 258 (.iload 4) 2 260 := ⟨zd zq_51 (by decide +kernel), rfl⟩
theorem iL_law_260 : xl_D mL_law 260 (.iconst 2) 1 261 := ⟨zd zq_127 (by decide +kernel), rfl⟩
end
-- 961.lb
section
theorem iL_law_261 : xl_D mL_law 261 (.iadd) 1 262 := ⟨zd zq_19 (by decide +kernel), rfl⟩
theorem iL_law_262 : xl_D mL_law 262 (.iaload) 1 263 := ⟨zd zq_20 (by decide +kernel), rfl⟩
theorem iL_law_263 : xl_D mL_law 263 (.aload_n 0) 1 264 := ⟨zd zq_0 (by decide +kernel), rfl⟩
theorem iL_law_264 : xl_D mL_law 264 (.iload 4) 2 266 := ⟨zd zq_51 (by decide +kernel), rfl⟩
theorem iL_law_266 : xl_D mL_law 266 (.iconst 3) 1 267 := ⟨zd zq_123 (by decide +kernel), rfl⟩
theorem iL_law_267 : xl_D mL_law 267 (.iadd) 1 268 := ⟨zd zq_19 (by decide +kernel), rfl⟩
theorem iL_law_268 : xl_D mL_law 268 (.iaload) 1 269 := ⟨zd zq_20 (by decide +kernel), rfl⟩
theorem iL_law_269 : xl_D mL_law 269 (.aload_n 0) 1 270 := ⟨zd zq_0 (by decide +kernel), rfl⟩
theorem iL_law_270 : xl_D mL_law 270 (.iload 4) 2 272 := ⟨zd zq_51 (by decide +kernel), rfl⟩
theorem iL_law_272 : xl_D mL_law 272 (.iconst 4) 1 273 := ⟨zd zq_63 (by decide +kernel), rfl⟩
theorem iL_law_273 : xl_D mL_law 273 (.iadd) 1 274 := ⟨zd zq_19 (by decide +kernel), rfl⟩
theorem iL_law_274 : xl_D mL_law 274 (.iaload) 1 275 := ⟨zd zq_20 (by decide +kernel), rfl⟩
theorem iL_law_275 : xl_Ca mL_law 275 mX2_start 278 := ⟨45, zd zq_764 (by decide +kernel), rfl, lL_45, Nat.le_of_ble_eq_true rfl, Nat.le_of_ble_eq_true rfl⟩
theorem iL_law_278 : xl_D mL_law 278 (.pop) 1 279 := ⟨zd zq_95 (by decide +kernel), rfl⟩
theorem iL_law_279 : xl_D mL_law 279 (.aload_n 2) 1 280 := ⟨zd zq_48 (by decide +kernel), rfl⟩
theorem iL_law_280 : xl_D mL_law 280 (.aload_n 0) 1 281 := ⟨zd zq_0 (by decide +kernel), rfl⟩
theorem iL_law_281 : xl_D mL_law 281 (.iload 4) 2 283 := ⟨zd zq_51 (by decide +kernel), rfl⟩
theorem iL_law_283 : xl_D mL_law 283 (.iconst 1) 1 284 := ⟨zd zq_36 (by decide +kernel), rfl⟩
theorem iL_law_284 : xl_D mL_law 284 (.iadd) 1 285 := ⟨zd zq_19 (by decide +kernel), rfl⟩
theorem iL_law_285 : xl_D mL_law 285 (.iaload) 1 286 := ⟨zd zq_20 (by decide +kernel), rfl⟩
theorem iL_law_286 : xl_D mL_law 286 (.aload_n 0) 1 287 := ⟨zd zq_0 (by decide +kernel), rfl⟩
theorem iL_law_287 : xl_D mL_law 287 (.iload 4) 2 289 := ⟨zd zq_51 (by decide +kernel), rfl⟩
theorem iL_law_289 : xl_D mL_law 289 (.iconst 2) 1 290 := ⟨zd zq_127 (by decide +kernel), rfl⟩
theorem iL_law_290 : xl_D mL_law 290 (.iadd) 1 291 := ⟨zd zq_19 (by decide +kernel), rfl⟩
theorem iL_law_291 : xl_D mL_law 291 (.iaload) 1 292 := ⟨zd zq_20 (by decide +kernel), rfl⟩
theorem iL_law_292 : xl_D mL_law 292 (.aload_n 0) 1 293 := ⟨zd zq_0 (by decide +kernel), rfl⟩
theorem iL_law_293 : xl_D mL_law 293 (.iload 4) 2 295 := ⟨zd zq_51 (by decide +kernel), rfl⟩
theorem iL_law_295 : xl_D mL_law 295 (.iconst 3) 1 296 := ⟨zd zq_123 (by decide +kernel), rfl⟩
theorem iL_law_296 : xl_D mL_law 296 (.iadd) 1 297 := ⟨zd zq_19 (by decide +kernel), rfl⟩
theorem iL_law_297 : xl_D mL_law 297 (.iaload) 1 298 := ⟨zd zq_20 (by decide +kernel), rfl⟩
theorem iL_law_298 : xl_D mL_law 298 (.aload_n 0) 1 299 := ⟨zd zq_0 (by decide +kernel), rfl⟩
theorem iL_law_299 : xl_D mL_law 299 (.iload 4) 2 301 := ⟨zd zq_51 (by decide +kernel), rfl⟩
theorem iL_law_301 : xl_D mL_law 301 (.iconst 4) 1 302 := ⟨zd zq_63 (by decide +kernel), rfl⟩
theorem iL_law_302 : xl_D mL_law 302 (.iadd) 1 303 := ⟨zd zq_19 (by decide +kernel), rfl⟩
theorem iL_law_303 : xl_D mL_law 303 (.iaload) 1 304 := ⟨zd zq_20 (by decide +kernel), rfl⟩
theorem iL_law_304 : xl_Ca mL_law 304 mX3_start 307 := ⟨49, zd zq_765 (by decide +kernel), rfl, lL_49, Nat.le_of_ble_eq_true rfl, Nat.le_of_ble_eq_true rfl⟩
theorem iL_law_307 : xl_D mL_law 307 (.pop) 1 308 := ⟨zd zq_95 (by decide +kernel), rfl⟩
theorem iL_law_308 : xl_J mL_law 308 (fun o => .goto o) 311 1299 := ⟨991, zd zq_766 (by decide +kernel), rfl, rfl⟩
theorem iL_law_311 : xl_D mL_law 311 (.aload_n 1) 1 312 := ⟨zd zq_56 (by decide +kernel), rfl⟩
theorem iL_law_312 : xl_D mL_law 312 (.aload_n 0) 1 313 := ⟨zd zq_0 (by decide +kernel), rfl⟩
theorem iL_law_313 : xl_D mL_law 313 (.iload 4) 2 315 := ⟨zd zq_51 (by decide +kernel), rfl⟩
theorem iL_law_315 : xl_D mL_law 315 (.iconst 1) 1 316 := ⟨zd zq_36 (by decide +kernel), rfl⟩
theorem iL_law_316 : xl_D mL_law 316 (.iadd) 1 317 := ⟨zd zq_19 (by decide +kernel), rfl⟩
theorem iL_law_317 : xl_D mL_law 317 (.iaload) 1 318 := ⟨zd zq_20 (by decide +kernel), rfl⟩
theorem iL_law_318 : xl_D mL_law 318 (.aload_n 0) 1 319 := ⟨zd zq_0 (by decide +kernel), rfl⟩
theorem iL_law_319 : xl_D mL_law 319 (.iload 4) 2 321 := ⟨zd zq_51 (by decide +kernel), rfl⟩
theorem iL_law_321 : xl_D mL_law 321 (.iconst 2) 1 322 := ⟨zd zq_127 (by decide +kernel), rfl⟩
theorem iL_law_322 : xl_D mL_law 322 (.iadd) 1 323 := ⟨zd zq_19 (by decide +kernel), rfl⟩
theorem iL_law_323 : xl_D mL_law 323 (.iaload) 1 324 := ⟨zd zq_20 (by decide +kernel), rfl⟩
theorem iL_law_324 : xl_Ca mL_law 324 mX2_delays 327 := ⟨50, zd zq_767 (by decide +kernel), rfl, lL_50, Nat.le_of_ble_eq_true rfl, Nat.le_of_ble_eq_true rfl⟩
theorem iL_law_327 : xl_D mL_law 327 (.pop) 1 328 := ⟨zd zq_95 (by decide +kernel), rfl⟩
theorem iL_law_328 : xl_D mL_law 328 (.aload_n 2) 1 329 := ⟨zd zq_48 (by decide +kernel), rfl⟩
theorem iL_law_329 : xl_D mL_law 329 (.aload_n 0) 1 330 := ⟨zd zq_0 (by decide +kernel), rfl⟩
theorem iL_law_330 : xl_D mL_law 330 (.iload 4) 2 332 := ⟨zd zq_51 (by decide +kernel), rfl⟩
theorem iL_law_332 : xl_D mL_law 332 (.iconst 1) 1 333 := ⟨zd zq_36 (by decide +kernel), rfl⟩
theorem iL_law_333 : xl_D mL_law 333 (.iadd) 1 334 := ⟨zd zq_19 (by decide +kernel), rfl⟩
theorem iL_law_334 : xl_D mL_law 334 (.iaload) 1 335 := ⟨zd zq_20 (by decide +kernel), rfl⟩
theorem iL_law_335 : xl_D mL_law 335 (.aload_n 0) 1 336 := ⟨zd zq_0 (by decide +kernel), rfl⟩
theorem iL_law_336 : xl_D mL_law 336 (.iload 4) 2 338 := ⟨zd zq_51 (by decide +kernel), rfl⟩
theorem iL_law_338 : xl_D mL_law 338 (.iconst 2) 1 339 := ⟨zd zq_127 (by decide +kernel), rfl⟩
theorem iL_law_339 : xl_D mL_law 339 (.iadd) 1 340 := ⟨zd zq_19 (by decide +kernel), rfl⟩
theorem iL_law_340 : xl_D mL_law 340 (.iaload) 1 341 := ⟨zd zq_20 (by decide +kernel), rfl⟩
theorem iL_law_341 : xl_Ca mL_law 341 mX3_delays 344 := ⟨53, zd zq_768 (by decide +kernel), rfl, lL_53, Nat.le_of_ble_eq_true rfl, Nat.le_of_ble_eq_true rfl⟩
theorem iL_law_344 : xl_D mL_law 344 (.pop) 1 345 := ⟨zd zq_95 (by decide +kernel), rfl⟩
theorem iL_law_345 : xl_J mL_law 345 (fun o => .goto o) 348 1299 := ⟨954, zd zq_769 (by decide +kernel), rfl, rfl⟩
theorem iL_law_348 : xl_D mL_law 348 (.aload_n 1) 1 349 := ⟨zd zq_56 (by decide +kernel), rfl⟩
theorem iL_law_349 : xl_D mL_law 349 (.aload_n 0) 1 350 := ⟨zd zq_0 (by decide +kernel), rfl⟩
theorem iL_law_350 : xl_D mL_law 350 (.iload 4) 2 352 := ⟨zd zq_51 (by decide +kernel), rfl⟩
theorem iL_law_352 : xl_D mL_law 352 (.iconst 1) 1 353 := ⟨zd zq_36 (by decide +kernel), rfl⟩
theorem iL_law_353 : xl_D mL_law 353 (.iadd) 1 354 := ⟨zd zq_19 (by decide +kernel), rfl⟩
theorem iL_law_354 : xl_D mL_law 354 (.iaload) 1 355 := ⟨zd zq_20 (by decide +kernel), rfl⟩
theorem iL_law_355 : xl_D mL_law 355 (.aload_n 0) 1 356 := ⟨zd zq_0 (by decide +kernel), rfl⟩
theorem iL_law_356 : xl_D mL_law 356 (.iload 4) 2 358 := ⟨zd zq_51 (by decide +kernel), rfl⟩
theorem iL_law_358 : xl_D mL_law 358 (.iconst 2) 1 359 := ⟨zd zq_127 (by decide +kernel), rfl⟩
theorem iL_law_359 : xl_D mL_law 359 (.iadd) 1 360 := ⟨zd zq_19 (by decide +kernel), rfl⟩
theorem iL_law_360 : xl_D mL_law 360 (.iaload) 1 361 := ⟨zd zq_20 (by decide +kernel), rfl⟩
theorem iL_law_361 : xl_D mL_law 361 (.aload_n 0) 1 362 := ⟨zd zq_0 (by decide +kernel), rfl⟩
theorem iL_law_362 : xl_D mL_law 362 (.iload 4) 2 364 := ⟨zd zq_51 (by decide +kernel), rfl⟩
theorem iL_law_364 : xl_D mL_law 364 (.iconst 3) 1 365 := ⟨zd zq_123 (by decide +kernel), rfl⟩
theorem iL_law_365 : xl_D mL_law 365 (.iadd) 1 366 := ⟨zd zq_19 (by decide +kernel), rfl⟩
theorem iL_law_366 : xl_D mL_law 366 (.iaload) 1 367 := ⟨zd zq_20 (by decide +kernel), rfl⟩
theorem iL_law_367 : xl_D mL_law 367 (.aload_n 0) 1 368 := ⟨zd zq_0 (by decide +kernel), rfl⟩
theorem iL_law_368 : xl_D mL_law 368 (.iload 4) 2 370 := ⟨zd zq_51 (by decide +kernel), rfl⟩
theorem iL_law_370 : xl_D mL_law 370 (.iconst 4) 1 371 := ⟨zd zq_63 (by decide +kernel), rfl⟩
theorem iL_law_371 : xl_D mL_law 371 (.iadd) 1 372 := ⟨zd zq_19 (by decide +kernel), rfl⟩
theorem iL_law_372 : xl_D mL_law 372 (.iaload) 1 373 := ⟨zd zq_20 (by decide +kernel), rfl⟩
theorem iL_law_373 : xl_Ca mL_law 373 mX2_event 376 := ⟨54, zd zq_770 (by decide +kernel), rfl, lL_54, Nat.le_of_ble_eq_true rfl, Nat.le_of_ble_eq_true rfl⟩
theorem iL_law_376 : xl_D mL_law 376 (.pop) 1 377 := ⟨zd zq_95 (by decide +kernel), rfl⟩
theorem iL_law_377 : xl_D mL_law 377 (.aload_n 2) 1 378 := ⟨zd zq_48 (by decide +kernel), rfl⟩
theorem iL_law_378 : xl_D mL_law 378 (.aload_n 0) 1 379 := ⟨zd zq_0 (by decide +kernel), rfl⟩
theorem iL_law_379 : xl_D mL_law 379 (.iload 4) 2 381 := ⟨zd zq_51 (by decide +kernel), rfl⟩
theorem iL_law_381 : xl_D mL_law 381 (.iconst 1) 1 382 := ⟨zd zq_36 (by decide +kernel), rfl⟩
theorem iL_law_382 : xl_D mL_law 382 (.iadd) 1 383 := ⟨zd zq_19 (by decide +kernel), rfl⟩
theorem iL_law_383 : xl_D mL_law 383 (.iaload) 1 384 := ⟨zd zq_20 (by decide +kernel), rfl⟩
theorem iL_law_384 : xl_D mL_law 384 (.aload_n 0) 1 385 := ⟨zd zq_0 (by decide +kernel), rfl⟩
theorem iL_law_385 : xl_D mL_law 385 (.iload 4) 2 387 := ⟨zd zq_51 (by decide +kernel), rfl⟩
theorem iL_law_387 : xl_D mL_law 387 (.iconst 2) 1 388 := ⟨zd zq_127 (by decide +kernel), rfl⟩
theorem iL_law_388 : xl_D mL_law 388 (.iadd) 1 389 := ⟨zd zq_19 (by decide +kernel), rfl⟩
theorem iL_law_389 : xl_D mL_law 389 (.iaload) 1 390 := ⟨zd zq_20 (by decide +kernel), rfl⟩
theorem iL_law_390 : xl_D mL_law 390 (.aload_n 0) 1 391 := ⟨zd zq_0 (by decide +kernel), rfl⟩
theorem iL_law_391 : xl_D mL_law 391 (.iload 4) 2 393 := ⟨zd zq_51 (by decide +kernel), rfl⟩
theorem iL_law_393 : xl_D mL_law 393 (.iconst 3) 1 394 := ⟨zd zq_123 (by decide +kernel), rfl⟩
theorem iL_law_394 : xl_D mL_law 394 (.iadd) 1 395 := ⟨zd zq_19 (by decide +kernel), rfl⟩
theorem iL_law_395 : xl_D mL_law 395 (.iaload) 1 396 := ⟨zd zq_20 (by decide +kernel), rfl⟩
theorem iL_law_396 : xl_D mL_law 396 (.aload_n 0) 1 397 := ⟨zd zq_0 (by decide +kernel), rfl⟩
theorem iL_law_397 : xl_D mL_law 397 (.iload 4) 2 399 := ⟨zd zq_51 (by decide +kernel), rfl⟩
theorem iL_law_399 : xl_D mL_law 399 (.iconst 4) 1 400 := ⟨zd zq_63 (by decide +kernel), rfl⟩
theorem iL_law_400 : xl_D mL_law 400 (.iadd) 1 401 := ⟨zd zq_19 (by decide +kernel), rfl⟩
theorem iL_law_401 : xl_D mL_law 401 (.iaload) 1 402 := ⟨zd zq_20 (by decide +kernel), rfl⟩
theorem iL_law_402 : xl_Ca mL_law 402 mX3_event 405 := ⟨57, zd zq_771 (by decide +kernel), rfl, lL_57, Nat.le_of_ble_eq_true rfl, Nat.le_of_ble_eq_true rfl⟩
theorem iL_law_405 : xl_D mL_law 405 (.pop) 1 406 := ⟨zd zq_95 (by decide +kernel), rfl⟩
theorem iL_law_406 : xl_J mL_law 406 (fun o => .goto o) 409 1299 := ⟨893, zd zq_772 (by decide +kernel), rfl, rfl⟩
theorem iL_law_409 : xl_D mL_law 409 (.aload_n 1) 1 410 := ⟨zd zq_56 (by decide +kernel), rfl⟩
theorem iL_law_410 : xl_Ca mL_law 410 mX2_events 413 := ⟨58, zd zq_773 (by decide +kernel), rfl, lL_58, Nat.le_of_ble_eq_true rfl, Nat.le_of_ble_eq_true rfl⟩
theorem iL_law_413 : xl_D mL_law 413 (.pop) 1 414 := ⟨zd zq_95 (by decide +kernel), rfl⟩
theorem iL_law_414 : xl_D mL_law 414 (.aload_n 2) 1 415 := ⟨zd zq_48 (by decide +kernel), rfl⟩
theorem iL_law_415 : xl_Ca mL_law 415 mX3_events 418 := ⟨62, zd zq_774 (by decide +kernel), rfl, lL_62, Nat.le_of_ble_eq_true rfl, Nat.le_of_ble_eq_true rfl⟩
theorem iL_law_418 : xl_D mL_law 418 (.pop) 1 419 := ⟨zd zq_95 (by decide +kernel), rfl⟩
theorem iL_law_419 : xl_J mL_law 419 (fun o => .goto o) 422 1299 := ⟨880, zd zq_775 (by decide +kernel), rfl, rfl⟩
theorem iL_law_422 : xl_D mL_law 422 (.aload_n 1) 1 423 := ⟨zd zq_56 (by decide +kernel), rfl⟩
theorem iL_law_423 : xl_D mL_law 423 (.aload_n 0) 1 424 := ⟨zd zq_0 (by decide +kernel), rfl⟩
theorem iL_law_424 : xl_D mL_law 424 (.iload 4) 2 426 := ⟨zd zq_51 (by decide +kernel), rfl⟩
theorem iL_law_426 : xl_D mL_law 426 (.iconst 1) 1 427 := ⟨zd zq_36 (by decide +kernel), rfl⟩
theorem iL_law_427 : xl_D mL_law 427 (.iadd) 1 428 := ⟨zd zq_19 (by decide +kernel), rfl⟩
theorem iL_law_428 : xl_D mL_law 428 (.iaload) 1 429 := ⟨zd zq_20 (by decide +kernel), rfl⟩
theorem iL_law_429 : xl_D mL_law 429 (.aload_n 0) 1 430 := ⟨zd zq_0 (by decide +kernel), rfl⟩
theorem iL_law_430 : xl_D mL_law 430 (.iload 4) 2 432 := ⟨zd zq_51 (by decide +kernel), rfl⟩
theorem iL_law_432 : xl_D mL_law 432 (.iconst 2) 1 433 := ⟨zd zq_127 (by decide +kernel), rfl⟩
theorem iL_law_433 : xl_D mL_law 433 (.iadd) 1 434 := ⟨zd zq_19 (by decide +kernel), rfl⟩
theorem iL_law_434 : xl_D mL_law 434 (.iaload) 1 435 := ⟨zd zq_20 (by decide +kernel), rfl⟩
theorem iL_law_435 : xl_Ca mL_law 435 mX2_marks 438 := ⟨63, zd zq_776 (by decide +kernel), rfl, lL_63, Nat.le_of_ble_eq_true rfl, Nat.le_of_ble_eq_true rfl⟩
theorem iL_law_438 : xl_D mL_law 438 (.pop) 1 439 := ⟨zd zq_95 (by decide +kernel), rfl⟩
theorem iL_law_439 : xl_D mL_law 439 (.aload_n 2) 1 440 := ⟨zd zq_48 (by decide +kernel), rfl⟩
theorem iL_law_440 : xl_D mL_law 440 (.aload_n 0) 1 441 := ⟨zd zq_0 (by decide +kernel), rfl⟩
theorem iL_law_441 : xl_D mL_law 441 (.iload 4) 2 443 := ⟨zd zq_51 (by decide +kernel), rfl⟩
theorem iL_law_443 : xl_D mL_law 443 (.iconst 1) 1 444 := ⟨zd zq_36 (by decide +kernel), rfl⟩
theorem iL_law_444 : xl_D mL_law 444 (.iadd) 1 445 := ⟨zd zq_19 (by decide +kernel), rfl⟩
theorem iL_law_445 : xl_D mL_law 445 (.iaload) 1 446 := ⟨zd zq_20 (by decide +kernel), rfl⟩
theorem iL_law_446 : xl_D mL_law 446 (.aload_n 0) 1 447 := ⟨zd zq_0 (by decide +kernel), rfl⟩
theorem iL_law_447 : xl_D mL_law 447 (.iload 4) 2 449 := ⟨zd zq_51 (by decide +kernel), rfl⟩
theorem iL_law_449 : xl_D mL_law 449 (.iconst 2) 1 450 := ⟨zd zq_127 (by decide +kernel), rfl⟩
theorem iL_law_450 : xl_D mL_law 450 (.iadd) 1 451 := ⟨zd zq_19 (by decide +kernel), rfl⟩
theorem iL_law_451 : xl_D mL_law 451 (.iaload) 1 452 := ⟨zd zq_20 (by decide +kernel), rfl⟩
theorem iL_law_452 : xl_Ca mL_law 452 mX3_marks 455 := ⟨66, zd zq_777 (by decide +kernel), rfl, lL_66, Nat.le_of_ble_eq_true rfl, Nat.le_of_ble_eq_true rfl⟩
theorem iL_law_455 : xl_D mL_law 455 (.pop) 1 456 := ⟨zd zq_95 (by decide +kernel), rfl⟩
theorem iL_law_456 : xl_J mL_law 456 (fun o => .goto o) 459 1299 := ⟨843, zd zq_778 (by decide +kernel), rfl, rfl⟩
theorem iL_law_459 : xl_D mL_law 459 (.aload_n 1) 1 460 := ⟨zd zq_56 (by decide +kernel), rfl⟩
theorem iL_law_460 : xl_D mL_law 460 (.aload_n 0) 1 461 := ⟨zd zq_0 (by decide +kernel), rfl⟩
theorem iL_law_461 : xl_D mL_law 461 (.iload 4) 2 463 := ⟨zd zq_51 (by decide +kernel), rfl⟩
theorem iL_law_463 : xl_D mL_law 463 (.iconst 1) 1 464 := ⟨zd zq_36 (by decide +kernel), rfl⟩
end
-- 962.lb
section
theorem iL_law_464 : xl_D mL_law 464 (.iadd) 1 465 := ⟨zd zq_19 (by decide +kernel), rfl⟩
theorem iL_law_465 : xl_D mL_law 465 (.iaload) 1 466 := ⟨zd zq_20 (by decide +kernel), rfl⟩
theorem iL_law_466 : xl_Ca mL_law 466 mX2_idles 469 := ⟨67, zd zq_254 (by decide +kernel), rfl, lL_67, Nat.le_of_ble_eq_true rfl, Nat.le_of_ble_eq_true rfl⟩
theorem iL_law_469 : xl_D mL_law 469 (.pop) 1 470 := ⟨zd zq_95 (by decide +kernel), rfl⟩
theorem iL_law_470 : xl_D mL_law 470 (.aload_n 2) 1 471 := ⟨zd zq_48 (by decide +kernel), rfl⟩
theorem iL_law_471 : xl_D mL_law 471 (.aload_n 0) 1 472 := ⟨zd zq_0 (by decide +kernel), rfl⟩
theorem iL_law_472 : xl_D mL_law 472 (.iload 4) 2 474 := ⟨zd zq_51 (by decide +kernel), rfl⟩
theorem iL_law_474 : xl_D mL_law 474 (.iconst 1) 1 475 := ⟨zd zq_36 (by decide +kernel), rfl⟩
theorem iL_law_475 : xl_D mL_law 475 (.iadd) 1 476 := ⟨zd zq_19 (by decide +kernel), rfl⟩
theorem iL_law_476 : xl_D mL_law 476 (.iaload) 1 477 := ⟨zd zq_20 (by decide +kernel), rfl⟩
theorem iL_law_477 : xl_Ca mL_law 477 mX3_idles 480 := ⟨70, zd zq_90 (by decide +kernel), rfl, lL_70, Nat.le_of_ble_eq_true rfl, Nat.le_of_ble_eq_true rfl⟩
theorem iL_law_480 : xl_D mL_law 480 (.pop) 1 481 := ⟨zd zq_95 (by decide +kernel), rfl⟩
theorem iL_law_481 : xl_J mL_law 481 (fun o => .goto o) 484 1299 := ⟨818, zd zq_779 (by decide +kernel), rfl, rfl⟩
theorem iL_law_484 : xl_D mL_law 484 (.aload_n 1) 1 485 := ⟨zd zq_56 (by decide +kernel), rfl⟩
theorem iL_law_485 : xl_D mL_law 485 (.aload_n 0) 1 486 := ⟨zd zq_0 (by decide +kernel), rfl⟩
theorem iL_law_486 : xl_D mL_law 486 (.iload 4) 2 488 := ⟨zd zq_51 (by decide +kernel), rfl⟩
theorem iL_law_488 : xl_D mL_law 488 (.iconst 1) 1 489 := ⟨zd zq_36 (by decide +kernel), rfl⟩
theorem iL_law_489 : xl_D mL_law 489 (.iadd) 1 490 := ⟨zd zq_19 (by decide +kernel), rfl⟩
theorem iL_law_490 : xl_D mL_law 490 (.iaload) 1 491 := ⟨zd zq_20 (by decide +kernel), rfl⟩
theorem iL_law_491 : xl_D mL_law 491 (.aload_n 0) 1 492 := ⟨zd zq_0 (by decide +kernel), rfl⟩
theorem iL_law_492 : xl_D mL_law 492 (.iload 4) 2 494 := ⟨zd zq_51 (by decide +kernel), rfl⟩
theorem iL_law_494 : xl_D mL_law 494 (.iconst 2) 1 495 := ⟨zd zq_127 (by decide +kernel), rfl⟩
theorem iL_law_495 : xl_D mL_law 495 (.iadd) 1 496 := ⟨zd zq_19 (by decide +kernel), rfl⟩
theorem iL_law_496 : xl_D mL_law 496 (.iaload) 1 497 := ⟨zd zq_20 (by decide +kernel), rfl⟩
theorem iL_law_497 : xl_D mL_law 497 (.aload_n 3) 1 498 := ⟨zd zq_446 (by decide +kernel), rfl⟩
theorem iL_law_498 : xl_Cs mL_law 498 mL_source 501 := ⟨71, zd zq_743 (by decide +kernel), rfl, lL_71, Nat.le_of_ble_eq_true rfl, Nat.le_of_ble_eq_true rfl⟩
theorem iL_law_501 : xl_D mL_law 501 (.istore 5) 2 503 := ⟨zd zq_91 (by decide +kernel), rfl⟩
theorem iL_law_503 : xl_D mL_law 503 (.aload_n 2) 1 504 := ⟨zd zq_48 (by decide +kernel), rfl⟩
theorem iL_law_504 : xl_D mL_law 504 (.aload_n 0) 1 505 := ⟨zd zq_0 (by decide +kernel), rfl⟩
theorem iL_law_505 : xl_D mL_law 505 (.iload 4) 2 507 := ⟨zd zq_51 (by decide +kernel), rfl⟩
theorem iL_law_507 : xl_D mL_law 507 (.iconst 1) 1 508 := ⟨zd zq_36 (by decide +kernel), rfl⟩
theorem iL_law_508 : xl_D mL_law 508 (.iadd) 1 509 := ⟨zd zq_19 (by decide +kernel), rfl⟩
theorem iL_law_509 : xl_D mL_law 509 (.iaload) 1 510 := ⟨zd zq_20 (by decide +kernel), rfl⟩
theorem iL_law_510 : xl_D mL_law 510 (.aload_n 0) 1 511 := ⟨zd zq_0 (by decide +kernel), rfl⟩
theorem iL_law_511 : xl_D mL_law 511 (.iload 4) 2 513 := ⟨zd zq_51 (by decide +kernel), rfl⟩
theorem iL_law_513 : xl_D mL_law 513 (.iconst 2) 1 514 := ⟨zd zq_127 (by decide +kernel), rfl⟩
theorem iL_law_514 : xl_D mL_law 514 (.iadd) 1 515 := ⟨zd zq_19 (by decide +kernel), rfl⟩
theorem iL_law_515 : xl_D mL_law 515 (.iaload) 1 516 := ⟨zd zq_20 (by decide +kernel), rfl⟩
theorem iL_law_516 : xl_Ca mL_law 516 mX3_source 519 := ⟨76, zd zq_780 (by decide +kernel), rfl, lL_76, Nat.le_of_ble_eq_true rfl, Nat.le_of_ble_eq_true rfl⟩
theorem iL_law_519 : xl_D mL_law 519 (.istore 6) 2 521 := ⟨zd zq_119 (by decide +kernel), rfl⟩
theorem iL_law_521 : xl_J mL_law 521 (fun o => .goto o) 524 1299 := ⟨778, zd zq_781 (by decide +kernel), rfl, rfl⟩
theorem iL_law_524 : xl_D mL_law 524 (.aload_n 1) 1 525 := ⟨zd zq_56 (by decide +kernel), rfl⟩
theorem iL_law_525 : xl_D mL_law 525 (.aload_n 0) 1 526 := ⟨zd zq_0 (by decide +kernel), rfl⟩
theorem iL_law_526 : xl_D mL_law 526 (.iload 4) 2 528 := ⟨zd zq_51 (by decide +kernel), rfl⟩
theorem iL_law_528 : xl_D mL_law 528 (.iconst 1) 1 529 := ⟨zd zq_36 (by decide +kernel), rfl⟩
theorem iL_law_529 : xl_D mL_law 529 (.iadd) 1 530 := ⟨zd zq_19 (by decide +kernel), rfl⟩
theorem iL_law_530 : xl_D mL_law 530 (.iaload) 1 531 := ⟨zd zq_20 (by decide +kernel), rfl⟩
theorem iL_law_531 : xl_D mL_law 531 (.aload_n 0) 1 532 := ⟨zd zq_0 (by decide +kernel), rfl⟩
theorem iL_law_532 : xl_D mL_law 532 (.iload 4) 2 534 := ⟨zd zq_51 (by decide +kernel), rfl⟩
theorem iL_law_534 : xl_D mL_law 534 (.iconst 2) 1 535 := ⟨zd zq_127 (by decide +kernel), rfl⟩
theorem iL_law_535 : xl_D mL_law 535 (.iadd) 1 536 := ⟨zd zq_19 (by decide +kernel), rfl⟩
theorem iL_law_536 : xl_D mL_law 536 (.iaload) 1 537 := ⟨zd zq_20 (by decide +kernel), rfl⟩
theorem iL_law_537 : xl_D mL_law 537 (.aload_n 3) 1 538 := ⟨zd zq_446 (by decide +kernel), rfl⟩
theorem iL_law_538 : xl_Cs mL_law 538 mL_session 541 := ⟨77, zd zq_782 (by decide +kernel), rfl, lL_77, Nat.le_of_ble_eq_true rfl, Nat.le_of_ble_eq_true rfl⟩
theorem iL_law_541 : xl_D mL_law 541 (.istore 5) 2 543 := ⟨zd zq_91 (by decide +kernel), rfl⟩
theorem iL_law_543 : xl_D mL_law 543 (.aload_n 2) 1 544 := ⟨zd zq_48 (by decide +kernel), rfl⟩
theorem iL_law_544 : xl_D mL_law 544 (.aload_n 0) 1 545 := ⟨zd zq_0 (by decide +kernel), rfl⟩
theorem iL_law_545 : xl_D mL_law 545 (.iload 4) 2 547 := ⟨zd zq_51 (by decide +kernel), rfl⟩
theorem iL_law_547 : xl_D mL_law 547 (.iconst 1) 1 548 := ⟨zd zq_36 (by decide +kernel), rfl⟩
theorem iL_law_548 : xl_D mL_law 548 (.iadd) 1 549 := ⟨zd zq_19 (by decide +kernel), rfl⟩
theorem iL_law_549 : xl_D mL_law 549 (.iaload) 1 550 := ⟨zd zq_20 (by decide +kernel), rfl⟩
theorem iL_law_550 : xl_D mL_law 550 (.aload_n 0) 1 551 := ⟨zd zq_0 (by decide +kernel), rfl⟩
theorem iL_law_551 : xl_D mL_law 551 (.iload 4) 2 553 := ⟨zd zq_51 (by decide +kernel), rfl⟩
theorem iL_law_553 : xl_D mL_law 553 (.iconst 2) 1 554 := ⟨zd zq_127 (by decide +kernel), rfl⟩
theorem iL_law_554 : xl_D mL_law 554 (.iadd) 1 555 := ⟨zd zq_19 (by decide +kernel), rfl⟩
theorem iL_law_555 : xl_D mL_law 555 (.iaload) 1 556 := ⟨zd zq_20 (by decide +kernel), rfl⟩
theorem iL_law_556 : xl_Ca mL_law 556 mX3_session 559 := ⟨79, zd zq_261 (by decide +kernel), rfl, lL_79, Nat.le_of_ble_eq_true rfl, Nat.le_of_ble_eq_true rfl⟩
theorem iL_law_559 : xl_D mL_law 559 (.istore 6) 2 561 := ⟨zd zq_119 (by decide +kernel), rfl⟩
theorem iL_law_561 : xl_J mL_law 561 (fun o => .goto o) 564 1299 := ⟨738, zd zq_783 (by decide +kernel), rfl, rfl⟩
theorem iL_law_564 : xl_D mL_law 564 (.aload_n 1) 1 565 := ⟨zd zq_56 (by decide +kernel), rfl⟩
theorem iL_law_565 : xl_D mL_law 565 (.aload_n 0) 1 566 := ⟨zd zq_0 (by decide +kernel), rfl⟩
theorem iL_law_566 : xl_D mL_law 566 (.iload 4) 2 568 := ⟨zd zq_51 (by decide +kernel), rfl⟩
theorem iL_law_568 : xl_D mL_law 568 (.iconst 1) 1 569 := ⟨zd zq_36 (by decide +kernel), rfl⟩
theorem iL_law_569 : xl_D mL_law 569 (.iadd) 1 570 := ⟨zd zq_19 (by decide +kernel), rfl⟩
theorem iL_law_570 : xl_D mL_law 570 (.iaload) 1 571 := ⟨zd zq_20 (by decide +kernel), rfl⟩
theorem iL_law_571 : xl_D mL_law 571 (.aload_n 0) 1 572 := ⟨zd zq_0 (by decide +kernel), rfl⟩
theorem iL_law_572 : xl_D mL_law 572 (.iload 4) 2 574 := ⟨zd zq_51 (by decide +kernel), rfl⟩
theorem iL_law_574 : xl_D mL_law 574 (.iconst 2) 1 575 := ⟨zd zq_127 (by decide +kernel), rfl⟩
theorem iL_law_575 : xl_D mL_law 575 (.iadd) 1 576 := ⟨zd zq_19 (by decide +kernel), rfl⟩
theorem iL_law_576 : xl_D mL_law 576 (.iaload) 1 577 := ⟨zd zq_20 (by decide +kernel), rfl⟩
theorem iL_law_577 : xl_Ca mL_law 577 mX2_at 580 := ⟨80, zd zq_784 (by decide +kernel), rfl, lL_80, Nat.le_of_ble_eq_true rfl, Nat.le_of_ble_eq_true rfl⟩
theorem iL_law_580 : xl_D mL_law 580 (.pop) 1 581 := ⟨zd zq_95 (by decide +kernel), rfl⟩
theorem iL_law_581 : xl_D mL_law 581 (.aload_n 2) 1 582 := ⟨zd zq_48 (by decide +kernel), rfl⟩
theorem iL_law_582 : xl_D mL_law 582 (.aload_n 0) 1 583 := ⟨zd zq_0 (by decide +kernel), rfl⟩
theorem iL_law_583 : xl_D mL_law 583 (.iload 4) 2 585 := ⟨zd zq_51 (by decide +kernel), rfl⟩
theorem iL_law_585 : xl_D mL_law 585 (.iconst 1) 1 586 := ⟨zd zq_36 (by decide +kernel), rfl⟩
theorem iL_law_586 : xl_D mL_law 586 (.iadd) 1 587 := ⟨zd zq_19 (by decide +kernel), rfl⟩
theorem iL_law_587 : xl_D mL_law 587 (.iaload) 1 588 := ⟨zd zq_20 (by decide +kernel), rfl⟩
theorem iL_law_588 : xl_D mL_law 588 (.aload_n 0) 1 589 := ⟨zd zq_0 (by decide +kernel), rfl⟩
theorem iL_law_589 : xl_D mL_law 589 (.iload 4) 2 591 := ⟨zd zq_51 (by decide +kernel), rfl⟩
theorem iL_law_591 : xl_D mL_law 591 (.iconst 2) 1 592 := ⟨zd zq_127 (by decide +kernel), rfl⟩
theorem iL_law_592 : xl_D mL_law 592 (.iadd) 1 593 := ⟨zd zq_19 (by decide +kernel), rfl⟩
theorem iL_law_593 : xl_D mL_law 593 (.iaload) 1 594 := ⟨zd zq_20 (by decide +kernel), rfl⟩
theorem iL_law_594 : xl_Ca mL_law 594 mX3_at 597 := ⟨83, zd zq_262 (by decide +kernel), rfl, lL_83, Nat.le_of_ble_eq_true rfl, Nat.le_of_ble_eq_true rfl⟩
theorem iL_law_597 : xl_D mL_law 597 (.pop) 1 598 := ⟨zd zq_95 (by decide +kernel), rfl⟩
theorem iL_law_598 : xl_J mL_law 598 (fun o => .goto o) 601 1299 := ⟨701, zd zq_785 (by decide +kernel), rfl, rfl⟩
theorem iL_law_601 : xl_D mL_law 601 (.aload_n 1) 1 602 := ⟨zd zq_56 (by decide +kernel), rfl⟩
theorem iL_law_602 : xl_D mL_law 602 (.aload_n 0) 1 603 := ⟨zd zq_0 (by decide +kernel), rfl⟩
theorem iL_law_603 : xl_D mL_law 603 (.iload 4) 2 605 := ⟨zd zq_51 (by decide +kernel), rfl⟩
theorem iL_law_605 : xl_D mL_law 605 (.iconst 1) 1 606 := ⟨zd zq_36 (by decide +kernel), rfl⟩
theorem iL_law_606 : xl_D mL_law 606 (.iadd) 1 607 := ⟨zd zq_19 (by decide +kernel), rfl⟩
theorem iL_law_607 : xl_D mL_law 607 (.iaload) 1 608 := ⟨zd zq_20 (by decide +kernel), rfl⟩
theorem iL_law_608 : xl_D mL_law 608 (.aload_n 0) 1 609 := ⟨zd zq_0 (by decide +kernel), rfl⟩
theorem iL_law_609 : xl_D mL_law 609 (.iload 4) 2 611 := ⟨zd zq_51 (by decide +kernel), rfl⟩
theorem iL_law_611 : xl_D mL_law 611 (.iconst 2) 1 612 := ⟨zd zq_127 (by decide +kernel), rfl⟩
theorem iL_law_612 : xl_D mL_law 612 (.iadd) 1 613 := ⟨zd zq_19 (by decide +kernel), rfl⟩
theorem iL_law_613 : xl_D mL_law 613 (.iaload) 1 614 := ⟨zd zq_20 (by decide +kernel), rfl⟩
theorem iL_law_614 : xl_D mL_law 614 (.aload_n 3) 1 615 := ⟨zd zq_446 (by decide +kernel), rfl⟩
theorem iL_law_615 : xl_Cs mL_law 615 mL_message 618 := ⟨84, zd zq_786 (by decide +kernel), rfl, lL_84, Nat.le_of_ble_eq_true rfl, Nat.le_of_ble_eq_true rfl⟩
theorem iL_law_618 : xl_D mL_law 618 (.istore 5) 2 620 := ⟨zd zq_91 (by decide +kernel), rfl⟩
theorem iL_law_620 : xl_D mL_law 620 (.aload_n 2) 1 621 := ⟨zd zq_48 (by decide +kernel), rfl⟩
theorem iL_law_621 : xl_D mL_law 621 (.aload_n 0) 1 622 := ⟨zd zq_0 (by decide +kernel), rfl⟩
theorem iL_law_622 : xl_D mL_law 622 (.iload 4) 2 624 := ⟨zd zq_51 (by decide +kernel), rfl⟩
theorem iL_law_624 : xl_D mL_law 624 (.iconst 1) 1 625 := ⟨zd zq_36 (by decide +kernel), rfl⟩
theorem iL_law_625 : xl_D mL_law 625 (.iadd) 1 626 := ⟨zd zq_19 (by decide +kernel), rfl⟩
theorem iL_law_626 : xl_D mL_law 626 (.iaload) 1 627 := ⟨zd zq_20 (by decide +kernel), rfl⟩
theorem iL_law_627 : xl_D mL_law 627 (.aload_n 0) 1 628 := ⟨zd zq_0 (by decide +kernel), rfl⟩
theorem iL_law_628 : xl_D mL_law 628 (.iload 4) 2 630 := ⟨zd zq_51 (by decide +kernel), rfl⟩
theorem iL_law_630 : xl_D mL_law 630 (.iconst 2) 1 631 := ⟨zd zq_127 (by decide +kernel), rfl⟩
theorem iL_law_631 : xl_D mL_law 631 (.iadd) 1 632 := ⟨zd zq_19 (by decide +kernel), rfl⟩
theorem iL_law_632 : xl_D mL_law 632 (.iaload) 1 633 := ⟨zd zq_20 (by decide +kernel), rfl⟩
theorem iL_law_633 : xl_Ca mL_law 633 mX3_message 636 := ⟨86, zd zq_787 (by decide +kernel), rfl, lL_86, Nat.le_of_ble_eq_true rfl, Nat.le_of_ble_eq_true rfl⟩
theorem iL_law_636 : xl_D mL_law 636 (.istore 6) 2 638 := ⟨zd zq_119 (by decide +kernel), rfl⟩
theorem iL_law_638 : xl_J mL_law 638 (fun o => .goto o) 641 1299 := ⟨661, zd zq_788 (by decide +kernel), rfl, rfl⟩
theorem iL_law_641 : xl_D mL_law 641 (.aload_n 1) 1 642 := ⟨zd zq_56 (by decide +kernel), rfl⟩
theorem iL_law_642 : xl_D mL_law 642 (.aload_n 0) 1 643 := ⟨zd zq_0 (by decide +kernel), rfl⟩
theorem iL_law_643 : xl_D mL_law 643 (.iload 4) 2 645 := ⟨zd zq_51 (by decide +kernel), rfl⟩
theorem iL_law_645 : xl_D mL_law 645 (.iconst 1) 1 646 := ⟨zd zq_36 (by decide +kernel), rfl⟩
theorem iL_law_646 : xl_D mL_law 646 (.iadd) 1 647 := ⟨zd zq_19 (by decide +kernel), rfl⟩
theorem iL_law_647 : xl_D mL_law 647 (.iaload) 1 648 := ⟨zd zq_20 (by decide +kernel), rfl⟩
theorem iL_law_648 : xl_Ca mL_law 648 mX2_sent 651 := ⟨87, zd zq_789 (by decide +kernel), rfl, lL_87, Nat.le_of_ble_eq_true rfl, Nat.le_of_ble_eq_true rfl⟩
theorem iL_law_651 : xl_D mL_law 651 (.pop) 1 652 := ⟨zd zq_95 (by decide +kernel), rfl⟩
theorem iL_law_652 : xl_D mL_law 652 (.aload_n 2) 1 653 := ⟨zd zq_48 (by decide +kernel), rfl⟩
theorem iL_law_653 : xl_D mL_law 653 (.aload_n 0) 1 654 := ⟨zd zq_0 (by decide +kernel), rfl⟩
theorem iL_law_654 : xl_D mL_law 654 (.iload 4) 2 656 := ⟨zd zq_51 (by decide +kernel), rfl⟩
theorem iL_law_656 : xl_D mL_law 656 (.iconst 1) 1 657 := ⟨zd zq_36 (by decide +kernel), rfl⟩
theorem iL_law_657 : xl_D mL_law 657 (.iadd) 1 658 := ⟨zd zq_19 (by decide +kernel), rfl⟩
theorem iL_law_658 : xl_D mL_law 658 (.iaload) 1 659 := ⟨zd zq_20 (by decide +kernel), rfl⟩
theorem iL_law_659 : xl_Ca mL_law 659 mX3_sent 662 := ⟨90, zd zq_265 (by decide +kernel), rfl, lL_90, Nat.le_of_ble_eq_true rfl, Nat.le_of_ble_eq_true rfl⟩
theorem iL_law_662 : xl_D mL_law 662 (.pop) 1 663 := ⟨zd zq_95 (by decide +kernel), rfl⟩
theorem iL_law_663 : xl_J mL_law 663 (fun o => .goto o) 666 1299 := ⟨636, zd zq_790 (by decide +kernel), rfl, rfl⟩
theorem iL_law_666 : xl_D mL_law 666 (.aload_n 1) 1 667 := ⟨zd zq_56 (by decide +kernel), rfl⟩
theorem iL_law_667 : xl_Ca mL_law 667 mX2_stands 670 := ⟨91, zd zq_791 (by decide +kernel), rfl, lL_91, Nat.le_of_ble_eq_true rfl, Nat.le_of_ble_eq_true rfl⟩
theorem iL_law_670 : xl_D mL_law 670 (.pop) 1 671 := ⟨zd zq_95 (by decide +kernel), rfl⟩
theorem iL_law_671 : xl_D mL_law 671 (.aload_n 2) 1 672 := ⟨zd zq_48 (by decide +kernel), rfl⟩
theorem iL_law_672 : xl_Ca mL_law 672 mX3_stands 675 := ⟨94, zd zq_120 (by decide +kernel), rfl, lL_94, Nat.le_of_ble_eq_true rfl, Nat.le_of_ble_eq_true rfl⟩
theorem iL_law_675 : xl_D mL_law 675 (.pop) 1 676 := ⟨zd zq_95 (by decide +kernel), rfl⟩
theorem iL_law_676 : xl_J mL_law 676 (fun o => .goto o) 679 1299 := ⟨623, zd zq_792 (by decide +kernel), rfl, rfl⟩
theorem iL_law_679 : xl_D mL_law 679 (.aload_n 1) 1 680 := ⟨zd zq_56 (by decide +kernel), rfl⟩
theorem iL_law_680 : xl_D mL_law 680 (.aload_n 0) 1 681 := ⟨zd zq_0 (by decide +kernel), rfl⟩
end
-- 963.lb
section
theorem iL_law_681 : xl_D mL_law 681 (.iload 4) 2 683 := ⟨zd zq_51 (by decide +kernel), rfl⟩
theorem iL_law_683 : xl_D mL_law 683 (.iconst 1) 1 684 := ⟨zd zq_36 (by decide +kernel), rfl⟩
theorem iL_law_684 : xl_D mL_law 684 (.iadd) 1 685 := ⟨zd zq_19 (by decide +kernel), rfl⟩
theorem iL_law_685 : xl_D mL_law 685 (.iaload) 1 686 := ⟨zd zq_20 (by decide +kernel), rfl⟩
theorem iL_law_686 : xl_Ca mL_law 686 mX2_closed 689 := ⟨95, zd zq_545 (by decide +kernel), rfl, lL_95, Nat.le_of_ble_eq_true rfl, Nat.le_of_ble_eq_true rfl⟩
theorem iL_law_689 : xl_D mL_law 689 (.pop) 1 690 := ⟨zd zq_95 (by decide +kernel), rfl⟩
theorem iL_law_690 : xl_D mL_law 690 (.aload_n 2) 1 691 := ⟨zd zq_48 (by decide +kernel), rfl⟩
theorem iL_law_691 : xl_D mL_law 691 (.aload_n 0) 1 692 := ⟨zd zq_0 (by decide +kernel), rfl⟩
theorem iL_law_692 : xl_D mL_law 692 (.iload 4) 2 694 := ⟨zd zq_51 (by decide +kernel), rfl⟩
theorem iL_law_694 : xl_D mL_law 694 (.iconst 1) 1 695 := ⟨zd zq_36 (by decide +kernel), rfl⟩
theorem iL_law_695 : xl_D mL_law 695 (.iadd) 1 696 := ⟨zd zq_19 (by decide +kernel), rfl⟩
theorem iL_law_696 : xl_D mL_law 696 (.iaload) 1 697 := ⟨zd zq_20 (by decide +kernel), rfl⟩
theorem iL_law_697 : xl_Ca mL_law 697 mX3_closed 700 := ⟨98, zd zq_793 (by decide +kernel), rfl, lL_98, Nat.le_of_ble_eq_true rfl, Nat.le_of_ble_eq_true rfl⟩
theorem iL_law_700 : xl_D mL_law 700 (.pop) 1 701 := ⟨zd zq_95 (by decide +kernel), rfl⟩
theorem iL_law_701 : xl_J mL_law 701 (fun o => .goto o) 704 1299 := ⟨598, zd zq_794 (by decide +kernel), rfl, rfl⟩
theorem iL_law_704 : xl_D mL_law 704 (.aload_n 1) 1 705 := ⟨zd zq_56 (by decide +kernel), rfl⟩
theorem iL_law_705 : xl_D mL_law 705 (.aload_n 0) 1 706 := ⟨zd zq_0 (by decide +kernel), rfl⟩
theorem iL_law_706 : xl_D mL_law 706 (.iload 4) 2 708 := ⟨zd zq_51 (by decide +kernel), rfl⟩
theorem iL_law_708 : xl_D mL_law 708 (.iconst 1) 1 709 := ⟨zd zq_36 (by decide +kernel), rfl⟩
theorem iL_law_709 : xl_D mL_law 709 (.iadd) 1 710 := ⟨zd zq_19 (by decide +kernel), rfl⟩
theorem iL_law_710 : xl_D mL_law 710 (.iaload) 1 711 := ⟨zd zq_20 (by decide +kernel), rfl⟩
theorem iL_law_711 : xl_D mL_law 711 (.aload_n 0) 1 712 := ⟨zd zq_0 (by decide +kernel), rfl⟩
theorem iL_law_712 : xl_D mL_law 712 (.iload 4) 2 714 := ⟨zd zq_51 (by decide +kernel), rfl⟩
theorem iL_law_714 : xl_D mL_law 714 (.iconst 2) 1 715 := ⟨zd zq_127 (by decide +kernel), rfl⟩
theorem iL_law_715 : xl_D mL_law 715 (.iadd) 1 716 := ⟨zd zq_19 (by decide +kernel), rfl⟩
theorem iL_law_716 : xl_D mL_law 716 (.iaload) 1 717 := ⟨zd zq_20 (by decide +kernel), rfl⟩
theorem iL_law_717 : xl_D mL_law 717 (.aload_n 3) 1 718 := ⟨zd zq_446 (by decide +kernel), rfl⟩
theorem iL_law_718 : xl_Cs mL_law 718 mL_finals 721 := ⟨99, zd zq_795 (by decide +kernel), rfl, lL_99, Nat.le_of_ble_eq_true rfl, Nat.le_of_ble_eq_true rfl⟩
theorem iL_law_721 : xl_D mL_law 721 (.istore 5) 2 723 := ⟨zd zq_91 (by decide +kernel), rfl⟩
theorem iL_law_723 : xl_D mL_law 723 (.aload_n 2) 1 724 := ⟨zd zq_48 (by decide +kernel), rfl⟩
theorem iL_law_724 : xl_D mL_law 724 (.aload_n 0) 1 725 := ⟨zd zq_0 (by decide +kernel), rfl⟩
theorem iL_law_725 : xl_D mL_law 725 (.iload 4) 2 727 := ⟨zd zq_51 (by decide +kernel), rfl⟩
theorem iL_law_727 : xl_D mL_law 727 (.iconst 1) 1 728 := ⟨zd zq_36 (by decide +kernel), rfl⟩
theorem iL_law_728 : xl_D mL_law 728 (.iadd) 1 729 := ⟨zd zq_19 (by decide +kernel), rfl⟩
theorem iL_law_729 : xl_D mL_law 729 (.iaload) 1 730 := ⟨zd zq_20 (by decide +kernel), rfl⟩
theorem iL_law_730 : xl_D mL_law 730 (.aload_n 0) 1 731 := ⟨zd zq_0 (by decide +kernel), rfl⟩
theorem iL_law_731 : xl_D mL_law 731 (.iload 4) 2 733 := ⟨zd zq_51 (by decide +kernel), rfl⟩
theorem iL_law_733 : xl_D mL_law 733 (.iconst 2) 1 734 := ⟨zd zq_127 (by decide +kernel), rfl⟩
theorem iL_law_734 : xl_D mL_law 734 (.iadd) 1 735 := ⟨zd zq_19 (by decide +kernel), rfl⟩
theorem iL_law_735 : xl_D mL_law 735 (.iaload) 1 736 := ⟨zd zq_20 (by decide +kernel), rfl⟩
theorem iL_law_736 : xl_Ca mL_law 736 mX3_finals 739 := ⟨101, zd zq_126 (by decide +kernel), rfl, lL_101, Nat.le_of_ble_eq_true rfl, Nat.le_of_ble_eq_true rfl⟩
theorem iL_law_739 : xl_D mL_law 739 (.istore 6) 2 741 := ⟨zd zq_119 (by decide +kernel), rfl⟩
theorem iL_law_741 : xl_J mL_law 741 (fun o => .goto o) 744 1299 := ⟨558, zd zq_796 (by decide +kernel), rfl, rfl⟩
theorem iL_law_744 : xl_D mL_law 744 (.aload_n 1) 1 745 := ⟨zd zq_56 (by decide +kernel), rfl⟩
theorem iL_law_745 : xl_D mL_law 745 (.aload_n 0) 1 746 := ⟨zd zq_0 (by decide +kernel), rfl⟩
theorem iL_law_746 : xl_D mL_law 746 (.iload 4) 2 748 := ⟨zd zq_51 (by decide +kernel), rfl⟩
theorem iL_law_748 : xl_D mL_law 748 (.iconst 1) 1 749 := ⟨zd zq_36 (by decide +kernel), rfl⟩
theorem iL_law_749 : xl_D mL_law 749 (.iadd) 1 750 := ⟨zd zq_19 (by decide +kernel), rfl⟩
theorem iL_law_750 : xl_D mL_law 750 (.iaload) 1 751 := ⟨zd zq_20 (by decide +kernel), rfl⟩
theorem iL_law_751 : xl_Ca mL_law 751 mX2_kinds 754 := ⟨102, zd zq_797 (by decide +kernel), rfl, lL_102, Nat.le_of_ble_eq_true rfl, Nat.le_of_ble_eq_true rfl⟩
theorem iL_law_754 : xl_D mL_law 754 (.pop) 1 755 := ⟨zd zq_95 (by decide +kernel), rfl⟩
theorem iL_law_755 : xl_D mL_law 755 (.aload_n 2) 1 756 := ⟨zd zq_48 (by decide +kernel), rfl⟩
theorem iL_law_756 : xl_D mL_law 756 (.aload_n 0) 1 757 := ⟨zd zq_0 (by decide +kernel), rfl⟩
theorem iL_law_757 : xl_D mL_law 757 (.iload 4) 2 759 := ⟨zd zq_51 (by decide +kernel), rfl⟩
theorem iL_law_759 : xl_D mL_law 759 (.iconst 1) 1 760 := ⟨zd zq_36 (by decide +kernel), rfl⟩
theorem iL_law_760 : xl_D mL_law 760 (.iadd) 1 761 := ⟨zd zq_19 (by decide +kernel), rfl⟩
theorem iL_law_761 : xl_D mL_law 761 (.iaload) 1 762 := ⟨zd zq_20 (by decide +kernel), rfl⟩
theorem iL_law_762 : xl_Ca mL_law 762 mX3_kinds 765 := ⟨105, zd zq_798 (by decide +kernel), rfl, lL_105, Nat.le_of_ble_eq_true rfl, Nat.le_of_ble_eq_true rfl⟩
theorem iL_law_765 : xl_D mL_law 765 (.pop) 1 766 := ⟨zd zq_95 (by decide +kernel), rfl⟩
theorem iL_law_766 : xl_J mL_law 766 (fun o => .goto o) 769 1299 := ⟨533, zd zq_799 (by decide +kernel), rfl, rfl⟩
theorem iL_law_769 : xl_D mL_law 769 (.aload_n 1) 1 770 := ⟨zd zq_56 (by decide +kernel), rfl⟩
theorem iL_law_770 : xl_Ca mL_law 770 mX2_slow 773 := ⟨106, zd zq_800 (by decide +kernel), rfl, lL_106, Nat.le_of_ble_eq_true rfl, Nat.le_of_ble_eq_true rfl⟩
theorem iL_law_773 : xl_D mL_law 773 (.pop) 1 774 := ⟨zd zq_95 (by decide +kernel), rfl⟩
theorem iL_law_774 : xl_D mL_law 774 (.aload_n 2) 1 775 := ⟨zd zq_48 (by decide +kernel), rfl⟩
theorem iL_law_775 : xl_Ca mL_law 775 mX3_slow 778 := ⟨109, zd zq_801 (by decide +kernel), rfl, lL_109, Nat.le_of_ble_eq_true rfl, Nat.le_of_ble_eq_true rfl⟩
theorem iL_law_778 : xl_D mL_law 778 (.pop) 1 779 := ⟨zd zq_95 (by decide +kernel), rfl⟩
theorem iL_law_779 : xl_J mL_law 779 (fun o => .goto o) 782 1299 := ⟨520, zd zq_802 (by decide +kernel), rfl, rfl⟩
theorem iL_law_782 : xl_D mL_law 782 (.aload_n 1) 1 783 := ⟨zd zq_56 (by decide +kernel), rfl⟩
theorem iL_law_783 : xl_D mL_law 783 (.aload_n 0) 1 784 := ⟨zd zq_0 (by decide +kernel), rfl⟩
theorem iL_law_784 : xl_D mL_law 784 (.iload 4) 2 786 := ⟨zd zq_51 (by decide +kernel), rfl⟩
theorem iL_law_786 : xl_D mL_law 786 (.iconst 1) 1 787 := ⟨zd zq_36 (by decide +kernel), rfl⟩
theorem iL_law_787 : xl_D mL_law 787 (.iadd) 1 788 := ⟨zd zq_19 (by decide +kernel), rfl⟩
theorem iL_law_788 : xl_D mL_law 788 (.iaload) 1 789 := ⟨zd zq_20 (by decide +kernel), rfl⟩
theorem iL_law_789 : xl_D mL_law 789 (.aload_n 0) 1 790 := ⟨zd zq_0 (by decide +kernel), rfl⟩
theorem iL_law_790 : xl_D mL_law 790 (.iload 4) 2 792 := ⟨zd zq_51 (by decide +kernel), rfl⟩
theorem iL_law_792 : xl_D mL_law 792 (.iconst 2) 1 793 := ⟨zd zq_127 (by decide +kernel), rfl⟩
theorem iL_law_793 : xl_D mL_law 793 (.iadd) 1 794 := ⟨zd zq_19 (by decide +kernel), rfl⟩
theorem iL_law_794 : xl_D mL_law 794 (.iaload) 1 795 := ⟨zd zq_20 (by decide +kernel), rfl⟩
theorem iL_law_795 : xl_Ca mL_law 795 mX2_span 798 := ⟨110, zd zq_803 (by decide +kernel), rfl, lL_110, Nat.le_of_ble_eq_true rfl, Nat.le_of_ble_eq_true rfl⟩
theorem iL_law_798 : xl_D mL_law 798 (.pop) 1 799 := ⟨zd zq_95 (by decide +kernel), rfl⟩
theorem iL_law_799 : xl_D mL_law 799 (.aload_n 2) 1 800 := ⟨zd zq_48 (by decide +kernel), rfl⟩
theorem iL_law_800 : xl_D mL_law 800 (.aload_n 0) 1 801 := ⟨zd zq_0 (by decide +kernel), rfl⟩
theorem iL_law_801 : xl_D mL_law 801 (.iload 4) 2 803 := ⟨zd zq_51 (by decide +kernel), rfl⟩
theorem iL_law_803 : xl_D mL_law 803 (.iconst 1) 1 804 := ⟨zd zq_36 (by decide +kernel), rfl⟩
theorem iL_law_804 : xl_D mL_law 804 (.iadd) 1 805 := ⟨zd zq_19 (by decide +kernel), rfl⟩
theorem iL_law_805 : xl_D mL_law 805 (.iaload) 1 806 := ⟨zd zq_20 (by decide +kernel), rfl⟩
theorem iL_law_806 : xl_D mL_law 806 (.aload_n 0) 1 807 := ⟨zd zq_0 (by decide +kernel), rfl⟩
theorem iL_law_807 : xl_D mL_law 807 (.iload 4) 2 809 := ⟨zd zq_51 (by decide +kernel), rfl⟩
theorem iL_law_809 : xl_D mL_law 809 (.iconst 2) 1 810 := ⟨zd zq_127 (by decide +kernel), rfl⟩
theorem iL_law_810 : xl_D mL_law 810 (.iadd) 1 811 := ⟨zd zq_19 (by decide +kernel), rfl⟩
theorem iL_law_811 : xl_D mL_law 811 (.iaload) 1 812 := ⟨zd zq_20 (by decide +kernel), rfl⟩
theorem iL_law_812 : xl_Ca mL_law 812 mX3_span 815 := ⟨113, zd zq_804 (by decide +kernel), rfl, lL_113, Nat.le_of_ble_eq_true rfl, Nat.le_of_ble_eq_true rfl⟩
theorem iL_law_815 : xl_D mL_law 815 (.pop) 1 816 := ⟨zd zq_95 (by decide +kernel), rfl⟩
theorem iL_law_816 : xl_J mL_law 816 (fun o => .goto o) 819 1299 := ⟨483, zd zq_805 (by decide +kernel), rfl, rfl⟩
theorem iL_law_819 : xl_D mL_law 819 (.aload_n 1) 1 820 := ⟨zd zq_56 (by decide +kernel), rfl⟩
theorem iL_law_820 : xl_Ca mL_law 820 mX2_taken 823 := ⟨114, zd zq_278 (by decide +kernel), rfl, lL_114, Nat.le_of_ble_eq_true rfl, Nat.le_of_ble_eq_true rfl⟩
theorem iL_law_823 : xl_D mL_law 823 (.pop) 1 824 := ⟨zd zq_95 (by decide +kernel), rfl⟩
theorem iL_law_824 : xl_D mL_law 824 (.aload_n 2) 1 825 := ⟨zd zq_48 (by decide +kernel), rfl⟩
theorem iL_law_825 : xl_Ca mL_law 825 mX3_taken 828 := ⟨117, zd zq_806 (by decide +kernel), rfl, lL_117, Nat.le_of_ble_eq_true rfl, Nat.le_of_ble_eq_true rfl⟩
theorem iL_law_828 : xl_D mL_law 828 (.pop) 1 829 := ⟨zd zq_95 (by decide +kernel), rfl⟩
theorem iL_law_829 : xl_J mL_law 829 (fun o => .goto o) 832 1299 := ⟨470, zd zq_807 (by decide +kernel), rfl, rfl⟩
theorem iL_law_832 : xl_D mL_law 832 (.aload_n 1) 1 833 := ⟨zd zq_56 (by decide +kernel), rfl⟩
theorem iL_law_833 : xl_Ca mL_law 833 mX2_holds 836 := ⟨118, zd zq_140 (by decide +kernel), rfl, lL_118, Nat.le_of_ble_eq_true rfl, Nat.le_of_ble_eq_true rfl⟩
theorem iL_law_836 : xl_D mL_law 836 (.pop) 1 837 := ⟨zd zq_95 (by decide +kernel), rfl⟩
theorem iL_law_837 : xl_D mL_law 837 (.aload_n 2) 1 838 := ⟨zd zq_48 (by decide +kernel), rfl⟩
theorem iL_law_838 : xl_Ca mL_law 838 mX3_holds 841 := ⟨121, zd zq_141 (by decide +kernel), rfl, lL_121, Nat.le_of_ble_eq_true rfl, Nat.le_of_ble_eq_true rfl⟩
theorem iL_law_841 : xl_D mL_law 841 (.pop) 1 842 := ⟨zd zq_95 (by decide +kernel), rfl⟩
theorem iL_law_842 : xl_J mL_law 842 (fun o => .goto o) 845 1299 := ⟨457, zd zq_808 (by decide +kernel), rfl, rfl⟩
theorem iL_law_845 : xl_D mL_law 845 (.aload_n 1) 1 846 := ⟨zd zq_56 (by decide +kernel), rfl⟩
theorem iL_law_846 : xl_Ca mL_law 846 mX2_next 849 := ⟨122, zd zq_279 (by decide +kernel), rfl, lL_122, Nat.le_of_ble_eq_true rfl, Nat.le_of_ble_eq_true rfl⟩
theorem iL_law_849 : xl_D mL_law 849 (.pop) 1 850 := ⟨zd zq_95 (by decide +kernel), rfl⟩
theorem iL_law_850 : xl_D mL_law 850 (.aload_n 2) 1 851 := ⟨zd zq_48 (by decide +kernel), rfl⟩
theorem iL_law_851 : xl_Ca mL_law 851 mX3_next 854 := ⟨125, zd zq_280 (by decide +kernel), rfl, lL_125, Nat.le_of_ble_eq_true rfl, Nat.le_of_ble_eq_true rfl⟩
theorem iL_law_854 : xl_D mL_law 854 (.pop) 1 855 := ⟨zd zq_95 (by decide +kernel), rfl⟩
theorem iL_law_855 : xl_J mL_law 855 (fun o => .goto o) 858 1299 := ⟨444, zd zq_809 (by decide +kernel), rfl, rfl⟩
theorem iL_law_858 : xl_D mL_law 858 (.aload_n 1) 1 859 := ⟨zd zq_56 (by decide +kernel), rfl⟩
theorem iL_law_859 : xl_D mL_law 859 (.aload_n 0) 1 860 := ⟨zd zq_0 (by decide +kernel), rfl⟩
theorem iL_law_860 : xl_D mL_law 860 (.iload 4) 2 862 := ⟨zd zq_51 (by decide +kernel), rfl⟩
theorem iL_law_862 : xl_D mL_law 862 (.iconst 1) 1 863 := ⟨zd zq_36 (by decide +kernel), rfl⟩
theorem iL_law_863 : xl_D mL_law 863 (.iadd) 1 864 := ⟨zd zq_19 (by decide +kernel), rfl⟩
theorem iL_law_864 : xl_D mL_law 864 (.iaload) 1 865 := ⟨zd zq_20 (by decide +kernel), rfl⟩
theorem iL_law_865 : xl_Ca mL_law 865 mX2_ahead 868 := ⟨126, zd zq_810 (by decide +kernel), rfl, lL_126, Nat.le_of_ble_eq_true rfl, Nat.le_of_ble_eq_true rfl⟩
theorem iL_law_868 : xl_D mL_law 868 (.pop) 1 869 := ⟨zd zq_95 (by decide +kernel), rfl⟩
theorem iL_law_869 : xl_D mL_law 869 (.aload_n 2) 1 870 := ⟨zd zq_48 (by decide +kernel), rfl⟩
theorem iL_law_870 : xl_D mL_law 870 (.aload_n 0) 1 871 := ⟨zd zq_0 (by decide +kernel), rfl⟩
theorem iL_law_871 : xl_D mL_law 871 (.iload 4) 2 873 := ⟨zd zq_51 (by decide +kernel), rfl⟩
theorem iL_law_873 : xl_D mL_law 873 (.iconst 1) 1 874 := ⟨zd zq_36 (by decide +kernel), rfl⟩
theorem iL_law_874 : xl_D mL_law 874 (.iadd) 1 875 := ⟨zd zq_19 (by decide +kernel), rfl⟩
theorem iL_law_875 : xl_D mL_law 875 (.iaload) 1 876 := ⟨zd zq_20 (by decide +kernel), rfl⟩
theorem iL_law_876 : xl_Ca mL_law 876 mX3_ahead 879 := ⟨129, zd zq_560 (by decide +kernel), rfl, lL_129, Nat.le_of_ble_eq_true rfl, Nat.le_of_ble_eq_true rfl⟩
theorem iL_law_879 : xl_D mL_law 879 (.pop) 1 880 := ⟨zd zq_95 (by decide +kernel), rfl⟩
theorem iL_law_880 : xl_J mL_law 880 (fun o => .goto o) 883 1299 := ⟨419, zd zq_811 (by decide +kernel), rfl, rfl⟩
theorem iL_law_883 : xl_D mL_law 883 (.aload_n 1) 1 884 := ⟨zd zq_56 (by decide +kernel), rfl⟩
theorem iL_law_884 : xl_D mL_law 884 (.aload_n 0) 1 885 := ⟨zd zq_0 (by decide +kernel), rfl⟩
theorem iL_law_885 : xl_D mL_law 885 (.iload 4) 2 887 := ⟨zd zq_51 (by decide +kernel), rfl⟩
theorem iL_law_887 : xl_D mL_law 887 (.iconst 1) 1 888 := ⟨zd zq_36 (by decide +kernel), rfl⟩
theorem iL_law_888 : xl_D mL_law 888 (.iadd) 1 889 := ⟨zd zq_19 (by decide +kernel), rfl⟩
theorem iL_law_889 : xl_D mL_law 889 (.iaload) 1 890 := ⟨zd zq_20 (by decide +kernel), rfl⟩
theorem iL_law_890 : xl_D mL_law 890 (.aload_n 0) 1 891 := ⟨zd zq_0 (by decide +kernel), rfl⟩
theorem iL_law_891 : xl_D mL_law 891 (.iload 4) 2 893 := ⟨zd zq_51 (by decide +kernel), rfl⟩
theorem iL_law_893 : xl_D mL_law 893 (.iconst 2) 1 894 := ⟨zd zq_127 (by decide +kernel), rfl⟩
theorem iL_law_894 : xl_D mL_law 894 (.iadd) 1 895 := ⟨zd zq_19 (by decide +kernel), rfl⟩
theorem iL_law_895 : xl_D mL_law 895 (.iaload) 1 896 := ⟨zd zq_20 (by decide +kernel), rfl⟩
theorem iL_law_896 : xl_D mL_law 896 (.aload_n 0) 1 897 := ⟨zd zq_0 (by decide +kernel), rfl⟩
theorem iL_law_897 : xl_D mL_law 897 (.iload 4) 2 899 := ⟨zd zq_51 (by decide +kernel), rfl⟩
theorem iL_law_899 : xl_D mL_law 899 (.iconst 3) 1 900 := ⟨zd zq_123 (by decide +kernel), rfl⟩
theorem iL_law_900 : xl_D mL_law 900 (.iadd) 1 901 := ⟨zd zq_19 (by decide +kernel), rfl⟩
theorem iL_law_901 : xl_D mL_law 901 (.iaload) 1 902 := ⟨zd zq_20 (by decide +kernel), rfl⟩
theorem iL_law_902 : xl_D mL_law 902 (.aload_n 0) 1 903 := ⟨zd zq_0 (by decide +kernel), rfl⟩
theorem iL_law_903 : xl_D mL_law 903 (.iload 4) 2 905 := ⟨zd zq_51 (by decide +kernel), rfl⟩
end
-- 964.lb
section
theorem iL_law_905 : xl_D mL_law 905 (.iconst 4) 1 906 := ⟨zd zq_63 (by decide +kernel), rfl⟩
theorem iL_law_906 : xl_D mL_law 906 (.iadd) 1 907 := ⟨zd zq_19 (by decide +kernel), rfl⟩
theorem iL_law_907 : xl_D mL_law 907 (.iaload) 1 908 := ⟨zd zq_20 (by decide +kernel), rfl⟩
theorem iL_law_908 : xl_Ca mL_law 908 mX2_would 911 := ⟨130, zd zq_812 (by decide +kernel), rfl, lL_130, Nat.le_of_ble_eq_true rfl, Nat.le_of_ble_eq_true rfl⟩
theorem iL_law_911 : xl_D mL_law 911 (.pop) 1 912 := ⟨zd zq_95 (by decide +kernel), rfl⟩
theorem iL_law_912 : xl_D mL_law 912 (.aload_n 2) 1 913 := ⟨zd zq_48 (by decide +kernel), rfl⟩
theorem iL_law_913 : xl_D mL_law 913 (.aload_n 0) 1 914 := ⟨zd zq_0 (by decide +kernel), rfl⟩
theorem iL_law_914 : xl_D mL_law 914 (.iload 4) 2 916 := ⟨zd zq_51 (by decide +kernel), rfl⟩
theorem iL_law_916 : xl_D mL_law 916 (.iconst 1) 1 917 := ⟨zd zq_36 (by decide +kernel), rfl⟩
theorem iL_law_917 : xl_D mL_law 917 (.iadd) 1 918 := ⟨zd zq_19 (by decide +kernel), rfl⟩
theorem iL_law_918 : xl_D mL_law 918 (.iaload) 1 919 := ⟨zd zq_20 (by decide +kernel), rfl⟩
theorem iL_law_919 : xl_D mL_law 919 (.aload_n 0) 1 920 := ⟨zd zq_0 (by decide +kernel), rfl⟩
theorem iL_law_920 : xl_D mL_law 920 (.iload 4) 2 922 := ⟨zd zq_51 (by decide +kernel), rfl⟩
theorem iL_law_922 : xl_D mL_law 922 (.iconst 2) 1 923 := ⟨zd zq_127 (by decide +kernel), rfl⟩
theorem iL_law_923 : xl_D mL_law 923 (.iadd) 1 924 := ⟨zd zq_19 (by decide +kernel), rfl⟩
theorem iL_law_924 : xl_D mL_law 924 (.iaload) 1 925 := ⟨zd zq_20 (by decide +kernel), rfl⟩
theorem iL_law_925 : xl_D mL_law 925 (.aload_n 0) 1 926 := ⟨zd zq_0 (by decide +kernel), rfl⟩
theorem iL_law_926 : xl_D mL_law 926 (.iload 4) 2 928 := ⟨zd zq_51 (by decide +kernel), rfl⟩
theorem iL_law_928 : xl_D mL_law 928 (.iconst 3) 1 929 := ⟨zd zq_123 (by decide +kernel), rfl⟩
theorem iL_law_929 : xl_D mL_law 929 (.iadd) 1 930 := ⟨zd zq_19 (by decide +kernel), rfl⟩
theorem iL_law_930 : xl_D mL_law 930 (.iaload) 1 931 := ⟨zd zq_20 (by decide +kernel), rfl⟩
theorem iL_law_931 : xl_D mL_law 931 (.aload_n 0) 1 932 := ⟨zd zq_0 (by decide +kernel), rfl⟩
theorem iL_law_932 : xl_D mL_law 932 (.iload 4) 2 934 := ⟨zd zq_51 (by decide +kernel), rfl⟩
theorem iL_law_934 : xl_D mL_law 934 (.iconst 4) 1 935 := ⟨zd zq_63 (by decide +kernel), rfl⟩
theorem iL_law_935 : xl_D mL_law 935 (.iadd) 1 936 := ⟨zd zq_19 (by decide +kernel), rfl⟩
theorem iL_law_936 : xl_D mL_law 936 (.iaload) 1 937 := ⟨zd zq_20 (by decide +kernel), rfl⟩
theorem iL_law_937 : xl_Ca mL_law 937 mX3_would 940 := ⟨133, zd zq_813 (by decide +kernel), rfl, lL_133, Nat.le_of_ble_eq_true rfl, Nat.le_of_ble_eq_true rfl⟩
theorem iL_law_940 : xl_D mL_law 940 (.pop) 1 941 := ⟨zd zq_95 (by decide +kernel), rfl⟩
theorem iL_law_941 : xl_J mL_law 941 (fun o => .goto o) 944 1299 := ⟨358, zd zq_814 (by decide +kernel), rfl, rfl⟩
theorem iL_law_944 : xl_D mL_law 944 (.aload_n 1) 1 945 := ⟨zd zq_56 (by decide +kernel), rfl⟩
theorem iL_law_945 : xl_D mL_law 945 (.aload_n 0) 1 946 := ⟨zd zq_0 (by decide +kernel), rfl⟩
theorem iL_law_946 : xl_D mL_law 946 (.iload 4) 2 948 := ⟨zd zq_51 (by decide +kernel), rfl⟩
theorem iL_law_948 : xl_D mL_law 948 (.iconst 1) 1 949 := ⟨zd zq_36 (by decide +kernel), rfl⟩
theorem iL_law_949 : xl_D mL_law 949 (.iadd) 1 950 := ⟨zd zq_19 (by decide +kernel), rfl⟩
theorem iL_law_950 : xl_D mL_law 950 (.iaload) 1 951 := ⟨zd zq_20 (by decide +kernel), rfl⟩
theorem iL_law_951 : xl_Ca mL_law 951 mX2_batch 954 := ⟨134, zd zq_167 (by decide +kernel), rfl, lL_134, Nat.le_of_ble_eq_true rfl, Nat.le_of_ble_eq_true rfl⟩
theorem iL_law_954 : xl_D mL_law 954 (.pop) 1 955 := ⟨zd zq_95 (by decide +kernel), rfl⟩
theorem iL_law_955 : xl_D mL_law 955 (.aload_n 2) 1 956 := ⟨zd zq_48 (by decide +kernel), rfl⟩
theorem iL_law_956 : xl_D mL_law 956 (.aload_n 0) 1 957 := ⟨zd zq_0 (by decide +kernel), rfl⟩
theorem iL_law_957 : xl_D mL_law 957 (.iload 4) 2 959 := ⟨zd zq_51 (by decide +kernel), rfl⟩
theorem iL_law_959 : xl_D mL_law 959 (.iconst 1) 1 960 := ⟨zd zq_36 (by decide +kernel), rfl⟩
theorem iL_law_960 : xl_D mL_law 960 (.iadd) 1 961 := ⟨zd zq_19 (by decide +kernel), rfl⟩
theorem iL_law_961 : xl_D mL_law 961 (.iaload) 1 962 := ⟨zd zq_20 (by decide +kernel), rfl⟩
theorem iL_law_962 : xl_Ca mL_law 962 mX3_batch 965 := ⟨137, zd zq_815 (by decide +kernel), rfl, lL_137, Nat.le_of_ble_eq_true rfl, Nat.le_of_ble_eq_true rfl⟩
theorem iL_law_965 : xl_D mL_law 965 (.pop) 1 966 := ⟨zd zq_95 (by decide +kernel), rfl⟩
theorem iL_law_966 : xl_J mL_law 966 (fun o => .goto o) 969 1299 := ⟨333, zd zq_816 (by decide +kernel), rfl, rfl⟩
theorem iL_law_969 : xl_D mL_law 969 (.aload_n 1) 1 970 := ⟨zd zq_56 (by decide +kernel), rfl⟩
theorem iL_law_970 : xl_Ca mL_law 970 mX2_latest 973 := ⟨138, zd zq_172 (by decide +kernel), rfl, lL_138, Nat.le_of_ble_eq_true rfl, Nat.le_of_ble_eq_true rfl⟩
theorem iL_law_973 : xl_D mL_law 973 (.pop) 1 974 := ⟨zd zq_95 (by decide +kernel), rfl⟩
theorem iL_law_974 : xl_D mL_law 974 (.aload_n 2) 1 975 := ⟨zd zq_48 (by decide +kernel), rfl⟩
theorem iL_law_975 : xl_Ca mL_law 975 mX3_latest 978 := ⟨141, zd zq_173 (by decide +kernel), rfl, lL_141, Nat.le_of_ble_eq_true rfl, Nat.le_of_ble_eq_true rfl⟩
theorem iL_law_978 : xl_D mL_law 978 (.pop) 1 979 := ⟨zd zq_95 (by decide +kernel), rfl⟩
theorem iL_law_979 : xl_J mL_law 979 (fun o => .goto o) 982 1299 := ⟨320, zd zq_817 (by decide +kernel), rfl, rfl⟩
theorem iL_law_982 : xl_D mL_law 982 (.aload_n 1) 1 983 := ⟨zd zq_56 (by decide +kernel), rfl⟩
theorem iL_law_983 : xl_D mL_law 983 (.aload_n 0) 1 984 := ⟨zd zq_0 (by decide +kernel), rfl⟩
theorem iL_law_984 : xl_D mL_law 984 (.iload 4) 2 986 := ⟨zd zq_51 (by decide +kernel), rfl⟩
theorem iL_law_986 : xl_D mL_law 986 (.iconst 1) 1 987 := ⟨zd zq_36 (by decide +kernel), rfl⟩
theorem iL_law_987 : xl_D mL_law 987 (.iadd) 1 988 := ⟨zd zq_19 (by decide +kernel), rfl⟩
theorem iL_law_988 : xl_D mL_law 988 (.iaload) 1 989 := ⟨zd zq_20 (by decide +kernel), rfl⟩
theorem iL_law_989 : xl_D mL_law 989 (.aload_n 0) 1 990 := ⟨zd zq_0 (by decide +kernel), rfl⟩
theorem iL_law_990 : xl_D mL_law 990 (.iload 4) 2 992 := ⟨zd zq_51 (by decide +kernel), rfl⟩
theorem iL_law_992 : xl_D mL_law 992 (.iconst 2) 1 993 := ⟨zd zq_127 (by decide +kernel), rfl⟩
theorem iL_law_993 : xl_D mL_law 993 (.iadd) 1 994 := ⟨zd zq_19 (by decide +kernel), rfl⟩
theorem iL_law_994 : xl_D mL_law 994 (.iaload) 1 995 := ⟨zd zq_20 (by decide +kernel), rfl⟩
theorem iL_law_995 : xl_Ca mL_law 995 mX2_parts 998 := ⟨142, zd zq_818 (by decide +kernel), rfl, lL_142, Nat.le_of_ble_eq_true rfl, Nat.le_of_ble_eq_true rfl⟩
theorem iL_law_998 : xl_D mL_law 998 (.pop) 1 999 := ⟨zd zq_95 (by decide +kernel), rfl⟩
theorem iL_law_999 : xl_D mL_law 999 (.aload_n 2) 1 1000 := ⟨zd zq_48 (by decide +kernel), rfl⟩
theorem iL_law_1000 : xl_D mL_law 1000 (.aload_n 0) 1 1001 := ⟨zd zq_0 (by decide +kernel), rfl⟩
theorem iL_law_1001 : xl_D mL_law 1001 (.iload 4) 2 1003 := ⟨zd zq_51 (by decide +kernel), rfl⟩
theorem iL_law_1003 : xl_D mL_law 1003 (.iconst 1) 1 1004 := ⟨zd zq_36 (by decide +kernel), rfl⟩
theorem iL_law_1004 : xl_D mL_law 1004 (.iadd) 1 1005 := ⟨zd zq_19 (by decide +kernel), rfl⟩
theorem iL_law_1005 : xl_D mL_law 1005 (.iaload) 1 1006 := ⟨zd zq_20 (by decide +kernel), rfl⟩
theorem iL_law_1006 : xl_D mL_law 1006 (.aload_n 0) 1 1007 := ⟨zd zq_0 (by decide +kernel), rfl⟩
theorem iL_law_1007 : xl_D mL_law 1007 (.iload 4) 2 1009 := ⟨zd zq_51 (by decide +kernel), rfl⟩
theorem iL_law_1009 : xl_D mL_law 1009 (.iconst 2) 1 1010 := ⟨zd zq_127 (by decide +kernel), rfl⟩
theorem iL_law_1010 : xl_D mL_law 1010 (.iadd) 1 1011 := ⟨zd zq_19 (by decide +kernel), rfl⟩
theorem iL_law_1011 : xl_D mL_law 1011 (.iaload) 1 1012 := ⟨zd zq_20 (by decide +kernel), rfl⟩
theorem iL_law_1012 : xl_Ca mL_law 1012 mX3_parts 1015 := ⟨145, zd zq_175 (by decide +kernel), rfl, lL_145, Nat.le_of_ble_eq_true rfl, Nat.le_of_ble_eq_true rfl⟩
theorem iL_law_1015 : xl_D mL_law 1015 (.pop) 1 1016 := ⟨zd zq_95 (by decide +kernel), rfl⟩
theorem iL_law_1016 : xl_J mL_law 1016 (fun o => .goto o) 1019 1299 := ⟨283, zd zq_819 (by decide +kernel), rfl, rfl⟩
theorem iL_law_1019 : xl_D mL_law 1019 (.aload_n 1) 1 1020 := ⟨zd zq_56 (by decide +kernel), rfl⟩
theorem iL_law_1020 : xl_D mL_law 1020 (.aload_n 0) 1 1021 := ⟨zd zq_0 (by decide +kernel), rfl⟩
theorem iL_law_1021 : xl_D mL_law 1021 (.iload 4) 2 1023 := ⟨zd zq_51 (by decide +kernel), rfl⟩
theorem iL_law_1023 : xl_D mL_law 1023 (.iconst 1) 1 1024 := ⟨zd zq_36 (by decide +kernel), rfl⟩
theorem iL_law_1024 : xl_D mL_law 1024 (.iadd) 1 1025 := ⟨zd zq_19 (by decide +kernel), rfl⟩
theorem iL_law_1025 : xl_D mL_law 1025 (.iaload) 1 1026 := ⟨zd zq_20 (by decide +kernel), rfl⟩
theorem iL_law_1026 : xl_D mL_law 1026 (.aload_n 0) 1 1027 := ⟨zd zq_0 (by decide +kernel), rfl⟩
theorem iL_law_1027 : xl_D mL_law 1027 (.iload 4) 2 1029 := ⟨zd zq_51 (by decide +kernel), rfl⟩
theorem iL_law_1029 : xl_D mL_law 1029 (.iconst 2) 1 1030 := ⟨zd zq_127 (by decide +kernel), rfl⟩
theorem iL_law_1030 : xl_D mL_law 1030 (.iadd) 1 1031 := ⟨zd zq_19 (by decide +kernel), rfl⟩
theorem iL_law_1031 : xl_D mL_law 1031 (.iaload) 1 1032 := ⟨zd zq_20 (by decide +kernel), rfl⟩
theorem iL_law_1032 : xl_D mL_law 1032 (.aload_n 0) 1 1033 := ⟨zd zq_0 (by decide +kernel), rfl⟩
theorem iL_law_1033 : xl_D mL_law 1033 (.iload 4) 2 1035 := ⟨zd zq_51 (by decide +kernel), rfl⟩
theorem iL_law_1035 : xl_D mL_law 1035 (.iconst 3) 1 1036 := ⟨zd zq_123 (by decide +kernel), rfl⟩
theorem iL_law_1036 : xl_D mL_law 1036 (.iadd) 1 1037 := ⟨zd zq_19 (by decide +kernel), rfl⟩
theorem iL_law_1037 : xl_D mL_law 1037 (.iaload) 1 1038 := ⟨zd zq_20 (by decide +kernel), rfl⟩
theorem iL_law_1038 : xl_Ca mL_law 1038 mX2_again 1041 := ⟨146, zd zq_582 (by decide +kernel), rfl, lL_146, Nat.le_of_ble_eq_true rfl, Nat.le_of_ble_eq_true rfl⟩
theorem iL_law_1041 : xl_D mL_law 1041 (.pop) 1 1042 := ⟨zd zq_95 (by decide +kernel), rfl⟩
theorem iL_law_1042 : xl_D mL_law 1042 (.aload_n 2) 1 1043 := ⟨zd zq_48 (by decide +kernel), rfl⟩
theorem iL_law_1043 : xl_D mL_law 1043 (.aload_n 0) 1 1044 := ⟨zd zq_0 (by decide +kernel), rfl⟩
theorem iL_law_1044 : xl_D mL_law 1044 (.iload 4) 2 1046 := ⟨zd zq_51 (by decide +kernel), rfl⟩
theorem iL_law_1046 : xl_D mL_law 1046 (.iconst 1) 1 1047 := ⟨zd zq_36 (by decide +kernel), rfl⟩
theorem iL_law_1047 : xl_D mL_law 1047 (.iadd) 1 1048 := ⟨zd zq_19 (by decide +kernel), rfl⟩
theorem iL_law_1048 : xl_D mL_law 1048 (.iaload) 1 1049 := ⟨zd zq_20 (by decide +kernel), rfl⟩
theorem iL_law_1049 : xl_D mL_law 1049 (.aload_n 0) 1 1050 := ⟨zd zq_0 (by decide +kernel), rfl⟩
theorem iL_law_1050 : xl_D mL_law 1050 (.iload 4) 2 1052 := ⟨zd zq_51 (by decide +kernel), rfl⟩
theorem iL_law_1052 : xl_D mL_law 1052 (.iconst 2) 1 1053 := ⟨zd zq_127 (by decide +kernel), rfl⟩
theorem iL_law_1053 : xl_D mL_law 1053 (.iadd) 1 1054 := ⟨zd zq_19 (by decide +kernel), rfl⟩
theorem iL_law_1054 : xl_D mL_law 1054 (.iaload) 1 1055 := ⟨zd zq_20 (by decide +kernel), rfl⟩
theorem iL_law_1055 : xl_D mL_law 1055 (.aload_n 0) 1 1056 := ⟨zd zq_0 (by decide +kernel), rfl⟩
theorem iL_law_1056 : xl_D mL_law 1056 (.iload 4) 2 1058 := ⟨zd zq_51 (by decide +kernel), rfl⟩
theorem iL_law_1058 : xl_D mL_law 1058 (.iconst 3) 1 1059 := ⟨zd zq_123 (by decide +kernel), rfl⟩
theorem iL_law_1059 : xl_D mL_law 1059 (.iadd) 1 1060 := ⟨zd zq_19 (by decide +kernel), rfl⟩
theorem iL_law_1060 : xl_D mL_law 1060 (.iaload) 1 1061 := ⟨zd zq_20 (by decide +kernel), rfl⟩
theorem iL_law_1061 : xl_Ca mL_law 1061 mX3_again 1064 := ⟨150, zd zq_820 (by decide +kernel), rfl, lL_150, Nat.le_of_ble_eq_true rfl, Nat.le_of_ble_eq_true rfl⟩
theorem iL_law_1064 : xl_D mL_law 1064 (.pop) 1 1065 := ⟨zd zq_95 (by decide +kernel), rfl⟩
theorem iL_law_1065 : xl_J mL_law 1065 (fun o => .goto o) 1068 1299 := ⟨234, zd zq_821 (by decide +kernel), rfl, rfl⟩
theorem iL_law_1068 : xl_D mL_law 1068 (.aload_n 1) 1 1069 := ⟨zd zq_56 (by decide +kernel), rfl⟩
theorem iL_law_1069 : xl_D mL_law 1069 (.aload_n 0) 1 1070 := ⟨zd zq_0 (by decide +kernel), rfl⟩
theorem iL_law_1070 : xl_D mL_law 1070 (.iload 4) 2 1072 := ⟨zd zq_51 (by decide +kernel), rfl⟩
theorem iL_law_1072 : xl_D mL_law 1072 (.iconst 1) 1 1073 := ⟨zd zq_36 (by decide +kernel), rfl⟩
theorem iL_law_1073 : xl_D mL_law 1073 (.iadd) 1 1074 := ⟨zd zq_19 (by decide +kernel), rfl⟩
theorem iL_law_1074 : xl_D mL_law 1074 (.iaload) 1 1075 := ⟨zd zq_20 (by decide +kernel), rfl⟩
theorem iL_law_1075 : xl_Ca mL_law 1075 mX2_without 1078 := ⟨151, zd zq_180 (by decide +kernel), rfl, lL_151, Nat.le_of_ble_eq_true rfl, Nat.le_of_ble_eq_true rfl⟩
theorem iL_law_1078 : xl_D mL_law 1078 (.pop) 1 1079 := ⟨zd zq_95 (by decide +kernel), rfl⟩
theorem iL_law_1079 : xl_D mL_law 1079 (.aload_n 2) 1 1080 := ⟨zd zq_48 (by decide +kernel), rfl⟩
theorem iL_law_1080 : xl_D mL_law 1080 (.aload_n 0) 1 1081 := ⟨zd zq_0 (by decide +kernel), rfl⟩
theorem iL_law_1081 : xl_D mL_law 1081 (.iload 4) 2 1083 := ⟨zd zq_51 (by decide +kernel), rfl⟩
theorem iL_law_1083 : xl_D mL_law 1083 (.iconst 1) 1 1084 := ⟨zd zq_36 (by decide +kernel), rfl⟩
theorem iL_law_1084 : xl_D mL_law 1084 (.iadd) 1 1085 := ⟨zd zq_19 (by decide +kernel), rfl⟩
theorem iL_law_1085 : xl_D mL_law 1085 (.iaload) 1 1086 := ⟨zd zq_20 (by decide +kernel), rfl⟩
theorem iL_law_1086 : xl_Ca mL_law 1086 mX3_without 1089 := ⟨154, zd zq_183 (by decide +kernel), rfl, lL_154, Nat.le_of_ble_eq_true rfl, Nat.le_of_ble_eq_true rfl⟩
theorem iL_law_1089 : xl_D mL_law 1089 (.pop) 1 1090 := ⟨zd zq_95 (by decide +kernel), rfl⟩
theorem iL_law_1090 : xl_J mL_law 1090 (fun o => .goto o) 1093 1299 := ⟨209, zd zq_822 (by decide +kernel), rfl, rfl⟩
theorem iL_law_1093 : xl_D mL_law 1093 (.aload_n 1) 1 1094 := ⟨zd zq_56 (by decide +kernel), rfl⟩
theorem iL_law_1094 : xl_D mL_law 1094 (.aload_n 0) 1 1095 := ⟨zd zq_0 (by decide +kernel), rfl⟩
theorem iL_law_1095 : xl_D mL_law 1095 (.iload 4) 2 1097 := ⟨zd zq_51 (by decide +kernel), rfl⟩
theorem iL_law_1097 : xl_D mL_law 1097 (.iconst 1) 1 1098 := ⟨zd zq_36 (by decide +kernel), rfl⟩
theorem iL_law_1098 : xl_D mL_law 1098 (.iadd) 1 1099 := ⟨zd zq_19 (by decide +kernel), rfl⟩
theorem iL_law_1099 : xl_D mL_law 1099 (.iaload) 1 1100 := ⟨zd zq_20 (by decide +kernel), rfl⟩
theorem iL_law_1100 : xl_D mL_law 1100 (.aload_n 0) 1 1101 := ⟨zd zq_0 (by decide +kernel), rfl⟩
theorem iL_law_1101 : xl_D mL_law 1101 (.iload 4) 2 1103 := ⟨zd zq_51 (by decide +kernel), rfl⟩
theorem iL_law_1103 : xl_D mL_law 1103 (.iconst 2) 1 1104 := ⟨zd zq_127 (by decide +kernel), rfl⟩
theorem iL_law_1104 : xl_D mL_law 1104 (.iadd) 1 1105 := ⟨zd zq_19 (by decide +kernel), rfl⟩
theorem iL_law_1105 : xl_D mL_law 1105 (.iaload) 1 1106 := ⟨zd zq_20 (by decide +kernel), rfl⟩
theorem iL_law_1106 : xl_D mL_law 1106 (.aload_n 3) 1 1107 := ⟨zd zq_446 (by decide +kernel), rfl⟩
theorem iL_law_1107 : xl_Cs mL_law 1107 mL_input 1110 := ⟨155, zd zq_823 (by decide +kernel), rfl, lL_155, Nat.le_of_ble_eq_true rfl, Nat.le_of_ble_eq_true rfl⟩
theorem iL_law_1110 : xl_D mL_law 1110 (.istore 5) 2 1112 := ⟨zd zq_91 (by decide +kernel), rfl⟩
theorem iL_law_1112 : xl_D mL_law 1112 (.aload_n 2) 1 1113 := ⟨zd zq_48 (by decide +kernel), rfl⟩
theorem iL_law_1113 : xl_D mL_law 1113 (.aload_n 0) 1 1114 := ⟨zd zq_0 (by decide +kernel), rfl⟩
end
-- 965.lb
section
theorem iL_law_1114 : xl_D mL_law 1114 (.iload 4) 2 1116 := ⟨zd zq_51 (by decide +kernel), rfl⟩
theorem iL_law_1116 : xl_D mL_law 1116 (.iconst 1) 1 1117 := ⟨zd zq_36 (by decide +kernel), rfl⟩
theorem iL_law_1117 : xl_D mL_law 1117 (.iadd) 1 1118 := ⟨zd zq_19 (by decide +kernel), rfl⟩
theorem iL_law_1118 : xl_D mL_law 1118 (.iaload) 1 1119 := ⟨zd zq_20 (by decide +kernel), rfl⟩
theorem iL_law_1119 : xl_D mL_law 1119 (.aload_n 0) 1 1120 := ⟨zd zq_0 (by decide +kernel), rfl⟩
theorem iL_law_1120 : xl_D mL_law 1120 (.iload 4) 2 1122 := ⟨zd zq_51 (by decide +kernel), rfl⟩
theorem iL_law_1122 : xl_D mL_law 1122 (.iconst 2) 1 1123 := ⟨zd zq_127 (by decide +kernel), rfl⟩
theorem iL_law_1123 : xl_D mL_law 1123 (.iadd) 1 1124 := ⟨zd zq_19 (by decide +kernel), rfl⟩
theorem iL_law_1124 : xl_D mL_law 1124 (.iaload) 1 1125 := ⟨zd zq_20 (by decide +kernel), rfl⟩
theorem iL_law_1125 : xl_Ca mL_law 1125 mX3_input 1128 := ⟨157, zd zq_184 (by decide +kernel), rfl, lL_157, Nat.le_of_ble_eq_true rfl, Nat.le_of_ble_eq_true rfl⟩
theorem iL_law_1128 : xl_D mL_law 1128 (.istore 6) 2 1130 := ⟨zd zq_119 (by decide +kernel), rfl⟩
theorem iL_law_1130 : xl_J mL_law 1130 (fun o => .goto o) 1133 1299 := ⟨169, zd zq_824 (by decide +kernel), rfl, rfl⟩
theorem iL_law_1133 : xl_D mL_law 1133 (.aload_n 1) 1 1134 := ⟨zd zq_56 (by decide +kernel), rfl⟩
theorem iL_law_1134 : xl_Ca mL_law 1134 mX2_day 1137 := ⟨158, zd zq_591 (by decide +kernel), rfl, lL_158, Nat.le_of_ble_eq_true rfl, Nat.le_of_ble_eq_true rfl⟩
theorem iL_law_1137 : xl_D mL_law 1137 (.pop) 1 1138 := ⟨zd zq_95 (by decide +kernel), rfl⟩
theorem iL_law_1138 : xl_D mL_law 1138 (.aload_n 2) 1 1139 := ⟨zd zq_48 (by decide +kernel), rfl⟩
theorem iL_law_1139 : xl_Ca mL_law 1139 mX3_day 1142 := ⟨161, zd zq_593 (by decide +kernel), rfl, lL_161, Nat.le_of_ble_eq_true rfl, Nat.le_of_ble_eq_true rfl⟩
theorem iL_law_1142 : xl_D mL_law 1142 (.pop) 1 1143 := ⟨zd zq_95 (by decide +kernel), rfl⟩
theorem iL_law_1143 : xl_J mL_law 1143 (fun o => .goto o) 1146 1299 := ⟨156, zd zq_825 (by decide +kernel), rfl, rfl⟩
theorem iL_law_1146 : xl_D mL_law 1146 (.aload_n 1) 1 1147 := ⟨zd zq_56 (by decide +kernel), rfl⟩
theorem iL_law_1147 : xl_Ca mL_law 1147 mX2_undo 1150 := ⟨162, zd zq_826 (by decide +kernel), rfl, lL_162, Nat.le_of_ble_eq_true rfl, Nat.le_of_ble_eq_true rfl⟩
theorem iL_law_1150 : xl_D mL_law 1150 (.pop) 1 1151 := ⟨zd zq_95 (by decide +kernel), rfl⟩
theorem iL_law_1151 : xl_D mL_law 1151 (.aload_n 2) 1 1152 := ⟨zd zq_48 (by decide +kernel), rfl⟩
theorem iL_law_1152 : xl_Ca mL_law 1152 mX3_undo 1155 := ⟨165, zd zq_827 (by decide +kernel), rfl, lL_165, Nat.le_of_ble_eq_true rfl, Nat.le_of_ble_eq_true rfl⟩
theorem iL_law_1155 : xl_D mL_law 1155 (.pop) 1 1156 := ⟨zd zq_95 (by decide +kernel), rfl⟩
theorem iL_law_1156 : xl_J mL_law 1156 (fun o => .goto o) 1159 1299 := ⟨143, zd zq_828 (by decide +kernel), rfl, rfl⟩
theorem iL_law_1159 : xl_D mL_law 1159 (.aload_n 1) 1 1160 := ⟨zd zq_56 (by decide +kernel), rfl⟩
theorem iL_law_1160 : xl_D mL_law 1160 (.aload_n 0) 1 1161 := ⟨zd zq_0 (by decide +kernel), rfl⟩
theorem iL_law_1161 : xl_D mL_law 1161 (.iload 4) 2 1163 := ⟨zd zq_51 (by decide +kernel), rfl⟩
theorem iL_law_1163 : xl_D mL_law 1163 (.iconst 1) 1 1164 := ⟨zd zq_36 (by decide +kernel), rfl⟩
theorem iL_law_1164 : xl_D mL_law 1164 (.iadd) 1 1165 := ⟨zd zq_19 (by decide +kernel), rfl⟩
theorem iL_law_1165 : xl_D mL_law 1165 (.iaload) 1 1166 := ⟨zd zq_20 (by decide +kernel), rfl⟩
theorem iL_law_1166 : xl_D mL_law 1166 (.aload_n 0) 1 1167 := ⟨zd zq_0 (by decide +kernel), rfl⟩
theorem iL_law_1167 : xl_D mL_law 1167 (.iload 4) 2 1169 := ⟨zd zq_51 (by decide +kernel), rfl⟩
theorem iL_law_1169 : xl_D mL_law 1169 (.iconst 2) 1 1170 := ⟨zd zq_127 (by decide +kernel), rfl⟩
theorem iL_law_1170 : xl_D mL_law 1170 (.iadd) 1 1171 := ⟨zd zq_19 (by decide +kernel), rfl⟩
theorem iL_law_1171 : xl_D mL_law 1171 (.iaload) 1 1172 := ⟨zd zq_20 (by decide +kernel), rfl⟩
theorem iL_law_1172 : xl_Ca mL_law 1172 mX2_years 1175 := ⟨166, zd zq_198 (by decide +kernel), rfl, lL_166, Nat.le_of_ble_eq_true rfl, Nat.le_of_ble_eq_true rfl⟩
theorem iL_law_1175 : xl_D mL_law 1175 (.pop) 1 1176 := ⟨zd zq_95 (by decide +kernel), rfl⟩
theorem iL_law_1176 : xl_D mL_law 1176 (.aload_n 2) 1 1177 := ⟨zd zq_48 (by decide +kernel), rfl⟩
theorem iL_law_1177 : xl_D mL_law 1177 (.aload_n 0) 1 1178 := ⟨zd zq_0 (by decide +kernel), rfl⟩
theorem iL_law_1178 : xl_D mL_law 1178 (.iload 4) 2 1180 := ⟨zd zq_51 (by decide +kernel), rfl⟩
theorem iL_law_1180 : xl_D mL_law 1180 (.iconst 1) 1 1181 := ⟨zd zq_36 (by decide +kernel), rfl⟩
theorem iL_law_1181 : xl_D mL_law 1181 (.iadd) 1 1182 := ⟨zd zq_19 (by decide +kernel), rfl⟩
theorem iL_law_1182 : xl_D mL_law 1182 (.iaload) 1 1183 := ⟨zd zq_20 (by decide +kernel), rfl⟩
theorem iL_law_1183 : xl_D mL_law 1183 (.aload_n 0) 1 1184 := ⟨zd zq_0 (by decide +kernel), rfl⟩
theorem iL_law_1184 : xl_D mL_law 1184 (.iload 4) 2 1186 := ⟨zd zq_51 (by decide +kernel), rfl⟩
theorem iL_law_1186 : xl_D mL_law 1186 (.iconst 2) 1 1187 := ⟨zd zq_127 (by decide +kernel), rfl⟩
theorem iL_law_1187 : xl_D mL_law 1187 (.iadd) 1 1188 := ⟨zd zq_19 (by decide +kernel), rfl⟩
theorem iL_law_1188 : xl_D mL_law 1188 (.iaload) 1 1189 := ⟨zd zq_20 (by decide +kernel), rfl⟩
theorem iL_law_1189 : xl_Ca mL_law 1189 mX3_years 1192 := ⟨169, zd zq_200 (by decide +kernel), rfl, lL_169, Nat.le_of_ble_eq_true rfl, Nat.le_of_ble_eq_true rfl⟩
theorem iL_law_1192 : xl_D mL_law 1192 (.pop) 1 1193 := ⟨zd zq_95 (by decide +kernel), rfl⟩
theorem iL_law_1193 : xl_J mL_law 1193 (fun o => .goto o) 1196 1299 := ⟨106, zd zq_829 (by decide +kernel), rfl, rfl⟩
theorem iL_law_1196 : xl_D mL_law 1196 (.aload_n 1) 1 1197 := ⟨zd zq_56 (by decide +kernel), rfl⟩
theorem iL_law_1197 : xl_D mL_law 1197 (.aload_n 0) 1 1198 := ⟨zd zq_0 (by decide +kernel), rfl⟩
theorem iL_law_1198 : xl_D mL_law 1198 (.iload 4) 2 1200 := ⟨zd zq_51 (by decide +kernel), rfl⟩
theorem iL_law_1200 : xl_D mL_law 1200 (.iconst 1) 1 1201 := ⟨zd zq_36 (by decide +kernel), rfl⟩
theorem iL_law_1201 : xl_D mL_law 1201 (.iadd) 1 1202 := ⟨zd zq_19 (by decide +kernel), rfl⟩
theorem iL_law_1202 : xl_D mL_law 1202 (.iaload) 1 1203 := ⟨zd zq_20 (by decide +kernel), rfl⟩
theorem iL_law_1203 : xl_Ca mL_law 1203 mX2_keep 1206 := ⟨170, zd zq_307 (by decide +kernel), rfl, lL_170, Nat.le_of_ble_eq_true rfl, Nat.le_of_ble_eq_true rfl⟩
theorem iL_law_1206 : xl_D mL_law 1206 (.pop) 1 1207 := ⟨zd zq_95 (by decide +kernel), rfl⟩
theorem iL_law_1207 : xl_D mL_law 1207 (.aload_n 2) 1 1208 := ⟨zd zq_48 (by decide +kernel), rfl⟩
theorem iL_law_1208 : xl_D mL_law 1208 (.aload_n 0) 1 1209 := ⟨zd zq_0 (by decide +kernel), rfl⟩
theorem iL_law_1209 : xl_D mL_law 1209 (.iload 4) 2 1211 := ⟨zd zq_51 (by decide +kernel), rfl⟩
theorem iL_law_1211 : xl_D mL_law 1211 (.iconst 1) 1 1212 := ⟨zd zq_36 (by decide +kernel), rfl⟩
theorem iL_law_1212 : xl_D mL_law 1212 (.iadd) 1 1213 := ⟨zd zq_19 (by decide +kernel), rfl⟩
theorem iL_law_1213 : xl_D mL_law 1213 (.iaload) 1 1214 := ⟨zd zq_20 (by decide +kernel), rfl⟩
theorem iL_law_1214 : xl_Ca mL_law 1214 mX3_keep 1217 := ⟨173, zd zq_598 (by decide +kernel), rfl, lL_173, Nat.le_of_ble_eq_true rfl, Nat.le_of_ble_eq_true rfl⟩
theorem iL_law_1217 : xl_D mL_law 1217 (.pop) 1 1218 := ⟨zd zq_95 (by decide +kernel), rfl⟩
theorem iL_law_1218 : xl_J mL_law 1218 (fun o => .goto o) 1221 1299 := ⟨81, zd zq_830 (by decide +kernel), rfl, rfl⟩
theorem iL_law_1221 : xl_D mL_law 1221 (.aload_n 1) 1 1222 := ⟨zd zq_56 (by decide +kernel), rfl⟩
theorem iL_law_1222 : xl_D mL_law 1222 (.aload_n 0) 1 1223 := ⟨zd zq_0 (by decide +kernel), rfl⟩
theorem iL_law_1223 : xl_D mL_law 1223 (.iload 4) 2 1225 := ⟨zd zq_51 (by decide +kernel), rfl⟩
theorem iL_law_1225 : xl_D mL_law 1225 (.iconst 1) 1 1226 := ⟨zd zq_36 (by decide +kernel), rfl⟩
theorem iL_law_1226 : xl_D mL_law 1226 (.iadd) 1 1227 := ⟨zd zq_19 (by decide +kernel), rfl⟩
theorem iL_law_1227 : xl_D mL_law 1227 (.iaload) 1 1228 := ⟨zd zq_20 (by decide +kernel), rfl⟩
theorem iL_law_1228 : xl_Ca mL_law 1228 mX2_back 1231 := ⟨174, zd zq_831 (by decide +kernel), rfl, lL_174, Nat.le_of_ble_eq_true rfl, Nat.le_of_ble_eq_true rfl⟩
theorem iL_law_1231 : xl_D mL_law 1231 (.aload_n 2) 1 1232 := ⟨zd zq_48 (by decide +kernel), rfl⟩
theorem iL_law_1232 : xl_D mL_law 1232 (.aload_n 0) 1 1233 := ⟨zd zq_0 (by decide +kernel), rfl⟩
theorem iL_law_1233 : xl_D mL_law 1233 (.iload 4) 2 1235 := ⟨zd zq_51 (by decide +kernel), rfl⟩
theorem iL_law_1235 : xl_D mL_law 1235 (.iconst 1) 1 1236 := ⟨zd zq_36 (by decide +kernel), rfl⟩
theorem iL_law_1236 : xl_D mL_law 1236 (.iadd) 1 1237 := ⟨zd zq_19 (by decide +kernel), rfl⟩
theorem iL_law_1237 : xl_D mL_law 1237 (.iaload) 1 1238 := ⟨zd zq_20 (by decide +kernel), rfl⟩
theorem iL_law_1238 : xl_Ca mL_law 1238 mX3_back 1241 := ⟨177, zd zq_832 (by decide +kernel), rfl, lL_177, Nat.le_of_ble_eq_true rfl, Nat.le_of_ble_eq_true rfl⟩
theorem iL_law_1241 : xl_J mL_law 1241 (fun o => .if_icmp .eq o) 1244 1299 := ⟨58, zd zq_833 (by decide +kernel), rfl, rfl⟩
theorem iL_law_1244 : xl_D mL_law 1244 (.iconst 0) 1 1245 := ⟨zd zq_2 (by decide +kernel), rfl⟩
theorem iL_law_1245 : xl_D mL_law 1245 (.ireturn) 1 1246 := ⟨zd zq_17 (by decide +kernel), rfl⟩
theorem iL_law_1246 : xl_D mL_law 1246 (.aload_n 1) 1 1247 := ⟨zd zq_56 (by decide +kernel), rfl⟩
theorem iL_law_1247 : xl_D mL_law 1247 (.aload_n 0) 1 1248 := ⟨zd zq_0 (by decide +kernel), rfl⟩
theorem iL_law_1248 : xl_D mL_law 1248 (.iload 4) 2 1250 := ⟨zd zq_51 (by decide +kernel), rfl⟩
theorem iL_law_1250 : xl_D mL_law 1250 (.iconst 1) 1 1251 := ⟨zd zq_36 (by decide +kernel), rfl⟩
theorem iL_law_1251 : xl_D mL_law 1251 (.iadd) 1 1252 := ⟨zd zq_19 (by decide +kernel), rfl⟩
theorem iL_law_1252 : xl_D mL_law 1252 (.iaload) 1 1253 := ⟨zd zq_20 (by decide +kernel), rfl⟩
theorem iL_law_1253 : xl_Ca mL_law 1253 mX2_count 1256 := ⟨178, zd zq_215 (by decide +kernel), rfl, lL_178, Nat.le_of_ble_eq_true rfl, Nat.le_of_ble_eq_true rfl⟩
theorem iL_law_1256 : xl_D mL_law 1256 (.pop) 1 1257 := ⟨zd zq_95 (by decide +kernel), rfl⟩
theorem iL_law_1257 : xl_D mL_law 1257 (.aload_n 2) 1 1258 := ⟨zd zq_48 (by decide +kernel), rfl⟩
theorem iL_law_1258 : xl_D mL_law 1258 (.aload_n 0) 1 1259 := ⟨zd zq_0 (by decide +kernel), rfl⟩
theorem iL_law_1259 : xl_D mL_law 1259 (.iload 4) 2 1261 := ⟨zd zq_51 (by decide +kernel), rfl⟩
theorem iL_law_1261 : xl_D mL_law 1261 (.iconst 1) 1 1262 := ⟨zd zq_36 (by decide +kernel), rfl⟩
theorem iL_law_1262 : xl_D mL_law 1262 (.iadd) 1 1263 := ⟨zd zq_19 (by decide +kernel), rfl⟩
theorem iL_law_1263 : xl_D mL_law 1263 (.iaload) 1 1264 := ⟨zd zq_20 (by decide +kernel), rfl⟩
theorem iL_law_1264 : xl_Ca mL_law 1264 mX3_count 1267 := ⟨181, zd zq_216 (by decide +kernel), rfl, lL_181, Nat.le_of_ble_eq_true rfl, Nat.le_of_ble_eq_true rfl⟩
theorem iL_law_1267 : xl_D mL_law 1267 (.pop) 1 1268 := ⟨zd zq_95 (by decide +kernel), rfl⟩
theorem iL_law_1268 : xl_J mL_law 1268 (fun o => .goto o) 1271 1299 := ⟨31, zd zq_656 (by decide +kernel), rfl, rfl⟩
theorem iL_law_1271 : xl_D mL_law 1271 (.aload_n 1) 1 1272 := ⟨zd zq_56 (by decide +kernel), rfl⟩
theorem iL_law_1272 : xl_D mL_law 1272 (.aload_n 0) 1 1273 := ⟨zd zq_0 (by decide +kernel), rfl⟩
theorem iL_law_1273 : xl_D mL_law 1273 (.iload 4) 2 1275 := ⟨zd zq_51 (by decide +kernel), rfl⟩
theorem iL_law_1275 : xl_D mL_law 1275 (.iconst 1) 1 1276 := ⟨zd zq_36 (by decide +kernel), rfl⟩
theorem iL_law_1276 : xl_D mL_law 1276 (.iadd) 1 1277 := ⟨zd zq_19 (by decide +kernel), rfl⟩
theorem iL_law_1277 : xl_D mL_law 1277 (.iaload) 1 1278 := ⟨zd zq_20 (by decide +kernel), rfl⟩
theorem iL_law_1278 : xl_D mL_law 1278 (.aload_n 3) 1 1279 := ⟨zd zq_446 (by decide +kernel), rfl⟩
theorem iL_law_1279 : xl_Cs mL_law 1279 mL_row 1282 := ⟨182, zd zq_834 (by decide +kernel), rfl, lL_182, Nat.le_of_ble_eq_true rfl, Nat.le_of_ble_eq_true rfl⟩
theorem iL_law_1282 : xl_D mL_law 1282 (.istore 5) 2 1284 := ⟨zd zq_91 (by decide +kernel), rfl⟩
theorem iL_law_1284 : xl_D mL_law 1284 (.aload_n 2) 1 1285 := ⟨zd zq_48 (by decide +kernel), rfl⟩
theorem iL_law_1285 : xl_D mL_law 1285 (.aload_n 0) 1 1286 := ⟨zd zq_0 (by decide +kernel), rfl⟩
theorem iL_law_1286 : xl_D mL_law 1286 (.iload 4) 2 1288 := ⟨zd zq_51 (by decide +kernel), rfl⟩
theorem iL_law_1288 : xl_D mL_law 1288 (.iconst 1) 1 1289 := ⟨zd zq_36 (by decide +kernel), rfl⟩
theorem iL_law_1289 : xl_D mL_law 1289 (.iadd) 1 1290 := ⟨zd zq_19 (by decide +kernel), rfl⟩
theorem iL_law_1290 : xl_D mL_law 1290 (.iaload) 1 1291 := ⟨zd zq_20 (by decide +kernel), rfl⟩
theorem iL_law_1291 : xl_Ca mL_law 1291 mX3_row 1294 := ⟨185, zd zq_217 (by decide +kernel), rfl, lL_185, Nat.le_of_ble_eq_true rfl, Nat.le_of_ble_eq_true rfl⟩
theorem iL_law_1294 : xl_D mL_law 1294 (.lstore 6) 2 1296 := ⟨zd zq_835 (by decide +kernel), rfl⟩
theorem iL_law_1296 : xl_J mL_law 1296 (fun o => .goto o) 1299 1299 := ⟨3, zd zq_836 (by decide +kernel), rfl, rfl⟩
theorem iL_law_1299 : xl_D mL_law 1299 (.iinc 4 5) 3 1302 := ⟨zd zq_837 (by decide +kernel), rfl⟩
theorem iL_law_1302 : xl_J mL_law 1302 (fun o => .goto o) 1305 23 := ⟨-1279, zd zq_838 (by decide +kernel), rfl, rfl⟩
theorem iL_law_1305 : xl_D mL_law 1305 (.iconst 1) 1 1306 := ⟨zd zq_36 (by decide +kernel), rfl⟩
theorem iL_law_1306 : xl_D mL_law 1306 (.ireturn) 1 1307 := ⟨zd zq_17 (by decide +kernel), rfl⟩
end
