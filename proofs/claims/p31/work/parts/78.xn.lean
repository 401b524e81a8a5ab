/-! ===== the same for a method that makes cells: the map of places may grow; below Nn it stays ===== -/
/-- the classes of arrays, by their names -/
def xn_A (aC : Nat → ClassId) (s : State) : Prop := (∀ (k : Nat) (q : ClassId × FieldType), (xl_ty aC)[k]? = some q → s.vm.findClass ("[" ++ q.2.toString) = some q.1) ∧ va_AO RX1 s
/-- the script, if there is one: the place 99 of the constants -/
abbrev XS : Type := Option (Nat × (Nat → Int32) × ((Nat → Prop) → State → Prop))
def xn_S (S : XS) (σ : Nat → Nat) (A : Nat → Prop) (s : State) : Prop := match S with
  | none => True
  | some q => va_X (σ 99) q.1 q.2.1 s s.heap ∧ σ 99 < s.heap.size ∧ ¬ A (σ 99) ∧ q.2.2 A s
def xn_W (S : XS) (Nn : Nat) (M : XI) (rc rs pc : Nat) (L : List (Option Value)) (st : List Value) (h : XH) (Po : Option (Option Value) → XH → Prop) : Prop :=
  ∀ (p : Program) (l : Launch) (e : Env) (R : Room) (s : State) (m : MethodId) (args : Array Value) (below : List Frame) (meth : Method) (c : Code) (D : va_G) (aC : Nat → ClassId) (ρ σ aV : Nat → Nat) (A : Nat → Prop) (H : Heap) (locs : List Loc) (cells slots : Nat) (ls : Array Slot) (Q : State → Prop),
    xl_X M l p R s m args meth c → xl_H D aC ρ σ aV A s H locs h → xl_L ρ σ M.2.2.1 ls L → cells + rc ≤ R.cells → slots + rs ≤ R.slots →
    (∀ (ρ' : Nat → Nat) (v : Option Value) (h' : XH) (H' : Heap) (locs' : List Loc) (pc' cells' slots' : Nat) (ls' : Array Slot), (∀ i, i < Nn → ρ' i = ρ i) → Po (some v) h' → xl_H D aC ρ' σ aV A s H' locs' h' → xl_R M pc' v → cells' ≤ cells + rc → slots' ≤ slots + rs → W p l e R s m args below meth c H' locs' cells' slots' Q (F0 m pc' ls' (v.toList.map (xl_v ρ' σ)))) →
    (∀ (ρ' : Nat → Nat) (h' : XH) (H' : Heap) (locs' : List Loc) (pc' cells' slots' : Nat) (ls' : Array Slot), (∀ i, i < Nn → ρ' i = ρ i) → Po none h' → xl_H D aC ρ' σ aV A s H' locs' h' → xl_Y M pc' → cells' + 1 ≤ cells + rc → slots' + 6 ≤ slots + rs → ls'.size = M.2.2.1 → W p l e R s m args below meth c H' locs' cells' slots' Q (F0 m pc' ls' [])) →
    (xn_A aC s ∧ (M.1.name = "<init>" → meth.name = M.1.name) ∧ xn_S S σ A s) → W p l e R s m args below meth c H locs cells slots Q (F0 m pc ls (st.map (xl_v ρ σ)))
section XN
variable {S : XS} {Nn : Nat} {M : XI} {rc rs pc pc2 tgt : Nat} {L : List (Option Value)} {st st2 : List Value} {h : XH} {Po : Option (Option Value) → XH → Prop}
theorem xn_go (f : ∀ {p : Program} {l : Launch} {e : Env} {R : Room} {s : State} {m : MethodId} {args : Array Value} {below : List Frame} {meth : Method} {c : Code} {H : Heap} {locs : List Loc} {cells slots : Nat} {Q : State → Prop} {ls : Array Slot} {ρ σ : Nat → Nat}, xl_X M l p R s m args meth c → W p l e R s m args below meth c H locs cells slots Q (F0 m pc2 ls (st2.map (xl_v ρ σ))) → W p l e R s m args below meth c H locs cells slots Q (F0 m pc ls (st.map (xl_v ρ σ))))
    (k : xn_W S Nn M rc rs pc2 L st2 h Po) : xn_W S Nn M rc rs pc L st h Po := by
  intro p l e R s m args below meth c D aC ρ σ aV A H locs cells slots ls Q hX hH hL h1 h2 hr ht hZ
  exact f hX (k p l e R s m args below meth c D aC ρ σ aV A H locs cells slots ls Q hX hH hL h1 h2 hr ht hZ)
theorem xn_iconst {n : Int} (v : Int32) (d : xl_D M pc (.iconst n) 1 pc2) (hv : Int32.ofInt n = v) (k : xn_W S Nn M rc rs pc2 L (.int v :: st) h Po) : xn_W S Nn M rc rs pc L st h Po := by
  obtain ⟨d, rfl⟩ := d
  exact xn_go (fun hX k => lv_iconst hX.1 hX.2.1 d hv k) k
theorem xn_bipush {n : Int} (v : Int32) (d : xl_D M pc (.bipush n) 2 pc2) (hv : (Int8.ofInt n).toInt32 = v) (k : xn_W S Nn M rc rs pc2 L (.int v :: st) h Po) : xn_W S Nn M rc rs pc L st h Po := by
  obtain ⟨d, rfl⟩ := d
  exact xn_go (fun hX k => lv_bipush hX.1 hX.2.1 d hv k) k
theorem xn_sipush {n : Int} (v : Int32) (d : xl_D M pc (.sipush n) 3 pc2) (hv : (Int16.ofInt n).toInt32 = v) (k : xn_W S Nn M rc rs pc2 L (.int v :: st) h Po) : xn_W S Nn M rc rs pc L st h Po := by
  obtain ⟨d, rfl⟩ := d
  exact xn_go (fun hX k => lv_sipush hX.1 hX.2.1 d hv k) k
theorem xn_lconst {n : Fin 2} (v : Int64) (d : xl_D M pc (.lconst n) 1 pc2) (hv : Int64.ofNat (n : Nat) = v) (k : xn_W S Nn M rc rs pc2 L (.long v :: st) h Po) : xn_W S Nn M rc rs pc L st h Po := by
  obtain ⟨d, rfl⟩ := d
  exact xn_go (fun hX k => lv_lconst hX.1 hX.2.1 d hv k) k
theorem xn_ldcw {i : Nat} {v : Int32} (d : xl_D M pc (.ldc_w i) 3 pc2) (hw : Cond.constant M.1.cls i v ∈ xl_T) (k : xn_W S Nn M rc rs pc2 L (.int v :: st) h Po) : xn_W S Nn M rc rs pc L st h Po := by
  obtain ⟨d, rfl⟩ := d
  exact xn_go (fun hX k => lv_ldcw hX.1 hX.2.1 hX.2.2.2.2.1 (hX.2.2.2.2.2.1 _ hw) d k) k
theorem xn_ldc2 {i : Nat} {v : Int64} (d : xl_D M pc (.ldc2_w i) 3 pc2) (hw : Cond.constantLong M.1.cls i v ∈ xl_T) (k : xn_W S Nn M rc rs pc2 L (.long v :: st) h Po) : xn_W S Nn M rc rs pc L st h Po := by
  obtain ⟨d, rfl⟩ := d
  exact xn_go (fun hX k => lv_ldc2 hX.1 hX.2.1 hX.2.2.2.2.1 (hX.2.2.2.2.2.1 _ hw) d k) k
theorem xn_iadd {a b : Int32} (d : xl_D M pc .iadd 1 pc2) (k : xn_W S Nn M rc rs pc2 L (.int (a + b) :: st) h Po) : xn_W S Nn M rc rs pc L (.int b :: .int a :: st) h Po := by
  obtain ⟨d, rfl⟩ := d
  exact xn_go (fun hX k => lv_iadd hX.1 hX.2.1 d k) k
theorem xn_isub {a b : Int32} (d : xl_D M pc .isub 1 pc2) (k : xn_W S Nn M rc rs pc2 L (.int (a - b) :: st) h Po) : xn_W S Nn M rc rs pc L (.int b :: .int a :: st) h Po := by
  obtain ⟨d, rfl⟩ := d
  exact xn_go (fun hX k => lv_isub hX.1 hX.2.1 d k) k
theorem xn_imul {a b : Int32} (d : xl_D M pc .imul 1 pc2) (k : xn_W S Nn M rc rs pc2 L (.int (a * b) :: st) h Po) : xn_W S Nn M rc rs pc L (.int b :: .int a :: st) h Po := by
  obtain ⟨d, rfl⟩ := d
  exact xn_go (fun hX k => lv_imul hX.1 hX.2.1 d k) k
theorem xn_iand {a b : Int32} (d : xl_D M pc .iand 1 pc2) (k : xn_W S Nn M rc rs pc2 L (.int (a &&& b) :: st) h Po) : xn_W S Nn M rc rs pc L (.int b :: .int a :: st) h Po := by
  obtain ⟨d, rfl⟩ := d
  exact xn_go (fun hX k => lv_iand hX.1 hX.2.1 d k) k
theorem xn_ior {a b : Int32} (d : xl_D M pc .ior 1 pc2) (k : xn_W S Nn M rc rs pc2 L (.int (a ||| b) :: st) h Po) : xn_W S Nn M rc rs pc L (.int b :: .int a :: st) h Po := by
  obtain ⟨d, rfl⟩ := d
  exact xn_go (fun hX k => lv_ior hX.1 hX.2.1 d k) k
theorem xn_ishl {a b : Int32} (d : xl_D M pc .ishl 1 pc2) (k : xn_W S Nn M rc rs pc2 L (.int (a <<< (b &&& 31)) :: st) h Po) : xn_W S Nn M rc rs pc L (.int b :: .int a :: st) h Po := by
  obtain ⟨d, rfl⟩ := d
  exact xn_go (fun hX k => lv_ishl hX.1 hX.2.1 d k) k
theorem xn_ishr {a b : Int32} (d : xl_D M pc .ishr 1 pc2) (k : xn_W S Nn M rc rs pc2 L (.int (a >>> (b &&& 31)) :: st) h Po) : xn_W S Nn M rc rs pc L (.int b :: .int a :: st) h Po := by
  obtain ⟨d, rfl⟩ := d
  exact xn_go (fun hX k => lv_ishr hX.1 hX.2.1 d k) k
theorem xn_iushr {a b : Int32} (d : xl_D M pc .iushr 1 pc2) (k : xn_W S Nn M rc rs pc2 L (.int (a.toUInt32 >>> (b.toUInt32 &&& Int32.toUInt32 31)).toInt32 :: st) h Po) : xn_W S Nn M rc rs pc L (.int b :: .int a :: st) h Po := by
  obtain ⟨d, rfl⟩ := d
  exact xn_go (fun hX k => lv_iushr hX.1 hX.2.1 d rfl k) k
theorem xn_idiv {a b : Int32} (d : xl_D M pc .idiv 1 pc2) (hne : ¬ b = 0) (k : xn_W S Nn M rc rs pc2 L (.int (a / b) :: st) h Po) : xn_W S Nn M rc rs pc L (.int b :: .int a :: st) h Po := by
  obtain ⟨d, rfl⟩ := d
  exact xn_go (fun hX k => lv_idiv hX.1 hX.2.1 d hne k) k
theorem xn_irem {a b : Int32} (d : xl_D M pc .irem 1 pc2) (hne : ¬ b = 0) (k : xn_W S Nn M rc rs pc2 L (.int (a - a / b * b) :: st) h Po) : xn_W S Nn M rc rs pc L (.int b :: .int a :: st) h Po := by
  obtain ⟨d, rfl⟩ := d
  exact xn_go (fun hX k => lv_irem hX.1 hX.2.1 d hne k) k
theorem xn_ineg {a : Int32} (d : xl_D M pc .ineg 1 pc2) (k : xn_W S Nn M rc rs pc2 L (.int (-a) :: st) h Po) : xn_W S Nn M rc rs pc L (.int a :: st) h Po := by
  obtain ⟨d, rfl⟩ := d
  exact xn_go (fun hX k => lv_ineg hX.1 hX.2.1 d k) k
theorem xn_i2l {a : Int32} (d : xl_D M pc .i2l 1 pc2) (k : xn_W S Nn M rc rs pc2 L (.long a.toInt64 :: st) h Po) : xn_W S Nn M rc rs pc L (.int a :: st) h Po := by
  obtain ⟨d, rfl⟩ := d
  exact xn_go (fun hX k => lv_i2l hX.1 hX.2.1 d rfl k) k
theorem xn_lcmp {a b : Int64} (d : xl_D M pc .lcmp 1 pc2) (k : xn_W S Nn M rc rs pc2 L (.int (lg_cmp a b) :: st) h Po) : xn_W S Nn M rc rs pc L (.long b :: .long a :: st) h Po := by
  obtain ⟨d, rfl⟩ := d
  exact xn_go (fun hX k => W.lcmp hX.1 hX.2.1 d k) k
theorem xn_dup {a : Value} (d : xl_D M pc .dup 1 pc2) (ha : xl_1 a = true) (k : xn_W S Nn M rc rs pc2 L (a :: a :: st) h Po) : xn_W S Nn M rc rs pc L (a :: st) h Po := by
  obtain ⟨d, rfl⟩ := d
  exact xn_go (fun hX k => lv_dup hX.1 hX.2.1 d (xl_1c ha) k) k
theorem xn_pop {a : Value} (d : xl_D M pc .pop 1 pc2) (ha : xl_1 a = true) (k : xn_W S Nn M rc rs pc2 L st h Po) : xn_W S Nn M rc rs pc L (a :: st) h Po := by
  obtain ⟨d, rfl⟩ := d
  exact xn_go (fun hX k => lv_pop hX.1 hX.2.1 d (xl_1c ha) k) k
theorem xn_dup2 {a b : Value} (d : xl_D M pc .dup2 1 pc2) (ha : xl_1 a = true) (hb : xl_1 b = true) (k : xn_W S Nn M rc rs pc2 L (a :: b :: a :: b :: st) h Po) : xn_W S Nn M rc rs pc L (a :: b :: st) h Po := by
  obtain ⟨d, rfl⟩ := d
  exact xn_go (fun hX k => lv_dup2_11 hX.1 hX.2.1 d (xl_1c ha) (xl_1c hb) k) k
theorem xn_goto (d : xl_J M pc (fun o => .goto o) pc2 tgt) (k : xn_W S Nn M rc rs tgt L st h Po) : xn_W S Nn M rc rs pc L st h Po := by
  obtain ⟨off, d, e1, -⟩ := d
  exact xn_go (fun hX k => lv_goto hX.1 hX.2.1 d e1 k) k
theorem xn_ifnonnull {a : Nat} (d : xl_J M pc (fun o => .ifnonnull o) pc2 tgt) (k : xn_W S Nn M rc rs tgt L st h Po) : xn_W S Nn M rc rs pc L (.ref a :: st) h Po := by
  obtain ⟨off, d, e1, -⟩ := d
  exact xn_go (fun hX k => lv_ifnonnull hX.1 hX.2.1 d e1 k) k
theorem xn_ifnull {a : Nat} (d : xl_J M pc (fun o => .ifnull o) pc2 tgt) (k : xn_W S Nn M rc rs pc2 L st h Po) : xn_W S Nn M rc rs pc L (.ref a :: st) h Po := by
  obtain ⟨off, d, e1, rfl⟩ := d
  exact xn_go (fun hX k => lv_ifnull hX.1 hX.2.1 d k) k
theorem xn_if {P : Prop} {st2 : List Value} {t f : Nat} (g : ∀ {p : Program} {l : Launch} {e : Env} {R : Room} {s : State} {m : MethodId} {args : Array Value} {below : List Frame} {meth : Method} {c : Code} {H : Heap} {locs : List Loc} {cells slots : Nat} {Q : State → Prop} {ls : Array Slot} {ρ σ : Nat → Nat}, xl_X M l p R s m args meth c → (P → W p l e R s m args below meth c H locs cells slots Q (F0 m t ls (st2.map (xl_v ρ σ)))) → (¬ P → W p l e R s m args below meth c H locs cells slots Q (F0 m f ls (st2.map (xl_v ρ σ)))) → W p l e R s m args below meth c H locs cells slots Q (F0 m pc ls (st.map (xl_v ρ σ))))
    (kt : P → xn_W S Nn M rc rs t L st2 h Po) (kf : ¬ P → xn_W S Nn M rc rs f L st2 h Po) : xn_W S Nn M rc rs pc L st h Po := by
  intro p l e R s m args below meth c D aC ρ σ aV A H locs cells slots ls Q hX hH hL h1 h2 hr ht hZ
  exact g hX (fun q => kt q p l e R s m args below meth c D aC ρ σ aV A H locs cells slots ls Q hX hH hL h1 h2 hr ht hZ) (fun q => kf q p l e R s m args below meth c D aC ρ σ aV A H locs cells slots ls Q hX hH hL h1 h2 hr ht hZ)
theorem xn_if_eq {a : Int32} (d : xl_J M pc (fun o => .ifCond .eq o) pc2 tgt) (kt : a = 0 → xn_W S Nn M rc rs tgt L st h Po) (kf : ¬ (a = 0) → xn_W S Nn M rc rs pc2 L st h Po) : xn_W S Nn M rc rs pc L (.int a :: st) h Po := by
  obtain ⟨off, d, e1, rfl⟩ := d
  exact xn_if (fun hX k1 k2 => lv_if_eq hX.1 hX.2.1 d e1 k1 k2) kt kf
theorem xn_icmp_eq {a b : Int32} (d : xl_J M pc (fun o => .if_icmp .eq o) pc2 tgt) (kt : a = b → xn_W S Nn M rc rs tgt L st h Po) (kf : ¬ (a = b) → xn_W S Nn M rc rs pc2 L st h Po) : xn_W S Nn M rc rs pc L (.int b :: .int a :: st) h Po := by
  obtain ⟨off, d, e1, rfl⟩ := d
  exact xn_if (fun hX k1 k2 => lv_icmp_eq hX.1 hX.2.1 d e1 k1 k2) kt kf
theorem xn_if_ne {a : Int32} (d : xl_J M pc (fun o => .ifCond .ne o) pc2 tgt) (kt : ¬ a = 0 → xn_W S Nn M rc rs tgt L st h Po) (kf : a = 0 → xn_W S Nn M rc rs pc2 L st h Po) : xn_W S Nn M rc rs pc L (.int a :: st) h Po := by
  obtain ⟨off, d, e1, rfl⟩ := d
  exact xn_if (P := ¬ a = 0) (fun hX k1 k2 => lv_if_ne hX.1 hX.2.1 d e1 k1 (fun q => k2 (fun z => z q))) kt (fun q => kf (Classical.not_not.mp q))
theorem xn_icmp_ne {a b : Int32} (d : xl_J M pc (fun o => .if_icmp .ne o) pc2 tgt) (kt : ¬ a = b → xn_W S Nn M rc rs tgt L st h Po) (kf : a = b → xn_W S Nn M rc rs pc2 L st h Po) : xn_W S Nn M rc rs pc L (.int b :: .int a :: st) h Po := by
  obtain ⟨off, d, e1, rfl⟩ := d
  exact xn_if (P := ¬ a = b) (fun hX k1 k2 => lv_icmp_ne hX.1 hX.2.1 d e1 k1 (fun q => k2 (fun z => z q))) kt (fun q => kf (Classical.not_not.mp q))
theorem xn_if_lt {a : Int32} (d : xl_J M pc (fun o => .ifCond .lt o) pc2 tgt) (kt : a < 0 → xn_W S Nn M rc rs tgt L st h Po) (kf : ¬ (a < 0) → xn_W S Nn M rc rs pc2 L st h Po) : xn_W S Nn M rc rs pc L (.int a :: st) h Po := by
  obtain ⟨off, d, e1, rfl⟩ := d
  exact xn_if (fun hX k1 k2 => lv_if_lt hX.1 hX.2.1 d e1 k1 k2) kt kf
theorem xn_icmp_lt {a b : Int32} (d : xl_J M pc (fun o => .if_icmp .lt o) pc2 tgt) (kt : a < b → xn_W S Nn M rc rs tgt L st h Po) (kf : ¬ (a < b) → xn_W S Nn M rc rs pc2 L st h Po) : xn_W S Nn M rc rs pc L (.int b :: .int a :: st) h Po := by
  obtain ⟨off, d, e1, rfl⟩ := d
  exact xn_if (fun hX k1 k2 => lv_icmp_lt hX.1 hX.2.1 d e1 k1 k2) kt kf
theorem xn_if_ge {a : Int32} (d : xl_J M pc (fun o => .ifCond .ge o) pc2 tgt) (kt : 0 ≤ a → xn_W S Nn M rc rs tgt L st h Po) (kf : ¬ (0 ≤ a) → xn_W S Nn M rc rs pc2 L st h Po) : xn_W S Nn M rc rs pc L (.int a :: st) h Po := by
  obtain ⟨off, d, e1, rfl⟩ := d
  exact xn_if (fun hX k1 k2 => lv_if_ge hX.1 hX.2.1 d e1 k1 k2) kt kf
theorem xn_icmp_ge {a b : Int32} (d : xl_J M pc (fun o => .if_icmp .ge o) pc2 tgt) (kt : b ≤ a → xn_W S Nn M rc rs tgt L st h Po) (kf : ¬ (b ≤ a) → xn_W S Nn M rc rs pc2 L st h Po) : xn_W S Nn M rc rs pc L (.int b :: .int a :: st) h Po := by
  obtain ⟨off, d, e1, rfl⟩ := d
  exact xn_if (fun hX k1 k2 => lv_icmp_ge hX.1 hX.2.1 d e1 k1 k2) kt kf
theorem xn_if_gt {a : Int32} (d : xl_J M pc (fun o => .ifCond .gt o) pc2 tgt) (kt : 0 < a → xn_W S Nn M rc rs tgt L st h Po) (kf : ¬ (0 < a) → xn_W S Nn M rc rs pc2 L st h Po) : xn_W S Nn M rc rs pc L (.int a :: st) h Po := by
  obtain ⟨off, d, e1, rfl⟩ := d
  exact xn_if (fun hX k1 k2 => lv_if_gt hX.1 hX.2.1 d e1 k1 k2) kt kf
theorem xn_icmp_gt {a b : Int32} (d : xl_J M pc (fun o => .if_icmp .gt o) pc2 tgt) (kt : b < a → xn_W S Nn M rc rs tgt L st h Po) (kf : ¬ (b < a) → xn_W S Nn M rc rs pc2 L st h Po) : xn_W S Nn M rc rs pc L (.int b :: .int a :: st) h Po := by
  obtain ⟨off, d, e1, rfl⟩ := d
  exact xn_if (fun hX k1 k2 => lv_icmp_gt hX.1 hX.2.1 d e1 k1 k2) kt kf
theorem xn_if_le {a : Int32} (d : xl_J M pc (fun o => .ifCond .le o) pc2 tgt) (kt : a ≤ 0 → xn_W S Nn M rc rs tgt L st h Po) (kf : ¬ (a ≤ 0) → xn_W S Nn M rc rs pc2 L st h Po) : xn_W S Nn M rc rs pc L (.int a :: st) h Po := by
  obtain ⟨off, d, e1, rfl⟩ := d
  exact xn_if (fun hX k1 k2 => lv_if_le hX.1 hX.2.1 d e1 k1 k2) kt kf
theorem xn_icmp_le {a b : Int32} (d : xl_J M pc (fun o => .if_icmp .le o) pc2 tgt) (kt : a ≤ b → xn_W S Nn M rc rs tgt L st h Po) (kf : ¬ (a ≤ b) → xn_W S Nn M rc rs pc2 L st h Po) : xn_W S Nn M rc rs pc L (.int b :: .int a :: st) h Po := by
  obtain ⟨off, d, e1, rfl⟩ := d
  exact xn_if (fun hX k1 k2 => lv_icmp_le hX.1 hX.2.1 d e1 k1 k2) kt kf
theorem xn_gl {v : Value} {i : Nat} (hl : xl_n L i = some (some v)) (f : ∀ {p : Program} {l : Launch} {e : Env} {R : Room} {s : State} {m : MethodId} {args : Array Value} {below : List Frame} {meth : Method} {c : Code} {H : Heap} {locs : List Loc} {cells slots : Nat} {Q : State → Prop} {ls : Array Slot} {ρ σ : Nat → Nat}, xl_X M l p R s m args meth c → ls[i]? = some (.val (xl_v ρ σ v)) → W p l e R s m args below meth c H locs cells slots Q (F0 m pc2 ls (st2.map (xl_v ρ σ))) → W p l e R s m args below meth c H locs cells slots Q (F0 m pc ls (st.map (xl_v ρ σ))))
    (k : xn_W S Nn M rc rs pc2 L st2 h Po) : xn_W S Nn M rc rs pc L st h Po := by
  intro p l e R s m args below meth c D aC ρ σ aV A H locs cells slots ls Q hX hH hL h1 h2 hr ht hZ
  exact f hX (hL.2.2 i v hl) (k p l e R s m args below meth c D aC ρ σ aV A H locs cells slots ls Q hX hH hL h1 h2 hr ht hZ)
theorem xn_iload {i : Nat} {a : Int32} (d : xl_D M pc (.iload i) 2 pc2) (hl : xl_n L i = some (some (.int a))) (k : xn_W S Nn M rc rs pc2 L (.int a :: st) h Po) : xn_W S Nn M rc rs pc L st h Po := by
  obtain ⟨d, rfl⟩ := d
  exact xn_gl hl (fun hX hl k => lv_iload hX.1 hX.2.1 d hl k) k
theorem xn_iload_n {i : Fin 4} {a : Int32} (d : xl_D M pc (.iload_n i) 1 pc2) (hl : xl_n L i.val = some (some (.int a))) (k : xn_W S Nn M rc rs pc2 L (.int a :: st) h Po) : xn_W S Nn M rc rs pc L st h Po := by
  obtain ⟨d, rfl⟩ := d
  exact xn_gl hl (fun hX hl k => lv_iload_n hX.1 hX.2.1 d rfl hl k) k
theorem xn_lload {i : Nat} {a : Int64} (d : xl_D M pc (.lload i) 2 pc2) (hl : xl_n L i = some (some (.long a))) (k : xn_W S Nn M rc rs pc2 L (.long a :: st) h Po) : xn_W S Nn M rc rs pc L st h Po := by
  obtain ⟨d, rfl⟩ := d
  exact xn_gl hl (fun hX hl k => lv_lload hX.1 hX.2.1 d hl k) k
theorem xn_lload_n {i : Fin 4} {a : Int64} (d : xl_D M pc (.lload_n i) 1 pc2) (hl : xl_n L i.val = some (some (.long a))) (k : xn_W S Nn M rc rs pc2 L (.long a :: st) h Po) : xn_W S Nn M rc rs pc L st h Po := by
  obtain ⟨d, rfl⟩ := d
  exact xn_gl hl (fun hX hl k => lv_lload_n hX.1 hX.2.1 d rfl hl k) k
theorem xn_aload {i : Nat} {a : Nat} (d : xl_D M pc (.aload i) 2 pc2) (hl : xl_n L i = some (some (.ref a))) (k : xn_W S Nn M rc rs pc2 L (.ref a :: st) h Po) : xn_W S Nn M rc rs pc L st h Po := by
  obtain ⟨d, rfl⟩ := d
  exact xn_gl hl (fun hX hl k => lv_aload hX.1 hX.2.1 d hl k) k
theorem xn_aload_n {i : Fin 4} {a : Nat} (d : xl_D M pc (.aload_n i) 1 pc2) (hl : xl_n L i.val = some (some (.ref a))) (k : xn_W S Nn M rc rs pc2 L (.ref a :: st) h Po) : xn_W S Nn M rc rs pc L st h Po := by
  obtain ⟨d, rfl⟩ := d
  exact xn_gl hl (fun hX hl k => lv_aload_n hX.1 hX.2.1 d rfl hl k) k
theorem xn_saload {i : Nat} {a : UInt32} (d : xl_D M pc (.aload i) 2 pc2) (hl : xl_n L i = some (some (.float a))) (k : xn_W S Nn M rc rs pc2 L (.float a :: st) h Po) : xn_W S Nn M rc rs pc L st h Po := by
  obtain ⟨d, rfl⟩ := d
  exact xn_gl hl (fun hX hl k => lv_aload hX.1 hX.2.1 d hl k) k
theorem xn_saload_n {i : Fin 4} {a : UInt32} (d : xl_D M pc (.aload_n i) 1 pc2) (hl : xl_n L i.val = some (some (.float a))) (k : xn_W S Nn M rc rs pc2 L (.float a :: st) h Po) : xn_W S Nn M rc rs pc L st h Po := by
  obtain ⟨d, rfl⟩ := d
  exact xn_gl hl (fun hX hl k => lv_aload_n hX.1 hX.2.1 d rfl hl k) k
theorem xn_gs {v : Value} {i : Nat} (hk : xl_k L i = true) (hn : i < M.2.2.1) (f : ∀ {p : Program} {l : Launch} {e : Env} {R : Room} {s : State} {m : MethodId} {args : Array Value} {below : List Frame} {meth : Method} {c : Code} {H : Heap} {locs : List Loc} {cells slots : Nat} {Q : State → Prop} {ls : Array Slot} {ρ σ : Nat → Nat} {lv : List (Nat × Value)}, xl_X M l p R s m args meth c → lv_has ls M.2.2.1 lv → (∀ ls' : Array Slot, lv_has ls' M.2.2.1 ((i, xl_v ρ σ v) :: lv.filter (fun q => !(q.1 == i) && !(q.1 + 1 == i && q.2.category == 2))) → W p l e R s m args below meth c H locs cells slots Q (F0 m pc2 ls' (st2.map (xl_v ρ σ)))) → W p l e R s m args below meth c H locs cells slots Q (F0 m pc ls (st.map (xl_v ρ σ))))
    (k : xn_W S Nn M rc rs pc2 (xl_s L i (some v)) st2 h Po) : xn_W S Nn M rc rs pc L st h Po := by
  intro p l e R s m args below meth c D aC ρ σ aV A H locs cells slots ls Q hX hH hL h1 h2 hr ht hZ
  exact f hX hL.has (fun ls' hl => k p l e R s m args below meth c D aC ρ σ aV A H locs cells slots ls' Q hX hH (xl_L.put hk hl) h1 h2 hr ht hZ)
theorem xn_istore {i : Nat} {a : Int32} (d : xl_D M pc (.istore i) 2 pc2) (hk : xl_k L i = true) (hn : i < M.2.2.1) (k : xn_W S Nn M rc rs pc2 (xl_s L i (some (.int a))) st h Po) : xn_W S Nn M rc rs pc L (.int a :: st) h Po := by
  obtain ⟨d, rfl⟩ := d
  exact xn_gs (v := .int a) hk hn (fun hX hl k => lv_istore hX.1 hX.2.1 d hl hn rfl k) k
theorem xn_istore_n {i : Fin 4} {a : Int32} (d : xl_D M pc (.istore_n i) 1 pc2) (hk : xl_k L i.val = true) (hn : i.val < M.2.2.1) (k : xn_W S Nn M rc rs pc2 (xl_s L i.val (some (.int a))) st h Po) : xn_W S Nn M rc rs pc L (.int a :: st) h Po := by
  obtain ⟨d, rfl⟩ := d
  exact xn_gs (v := .int a) hk hn (fun hX hl k => lv_istore_n hX.1 hX.2.1 d rfl hl hn rfl k) k
theorem xn_astore {i : Nat} {a : Nat} (d : xl_D M pc (.astore i) 2 pc2) (hk : xl_k L i = true) (hn : i < M.2.2.1) (k : xn_W S Nn M rc rs pc2 (xl_s L i (some (.ref a))) st h Po) : xn_W S Nn M rc rs pc L (.ref a :: st) h Po := by
  obtain ⟨d, rfl⟩ := d
  exact xn_gs (v := .ref a) hk hn (fun hX hl k => lv_astore hX.1 hX.2.1 d hl hn rfl k) k
theorem xn_astore_n {i : Fin 4} {a : Nat} (d : xl_D M pc (.astore_n i) 1 pc2) (hk : xl_k L i.val = true) (hn : i.val < M.2.2.1) (k : xn_W S Nn M rc rs pc2 (xl_s L i.val (some (.ref a))) st h Po) : xn_W S Nn M rc rs pc L (.ref a :: st) h Po := by
  obtain ⟨d, rfl⟩ := d
  exact xn_gs (v := .ref a) hk hn (fun hX hl k => lv_astore_n hX.1 hX.2.1 d rfl hl hn rfl k) k
theorem xn_sastore {i : Nat} {a : UInt32} (d : xl_D M pc (.astore i) 2 pc2) (hk : xl_k L i = true) (hn : i < M.2.2.1) (k : xn_W S Nn M rc rs pc2 (xl_s L i (some (.float a))) st h Po) : xn_W S Nn M rc rs pc L (.float a :: st) h Po := by
  obtain ⟨d, rfl⟩ := d
  exact xn_gs (v := .float a) hk hn (fun hX hl k => lv_astore hX.1 hX.2.1 d hl hn rfl k) k
theorem xn_sastore_n {i : Fin 4} {a : UInt32} (d : xl_D M pc (.astore_n i) 1 pc2) (hk : xl_k L i.val = true) (hn : i.val < M.2.2.1) (k : xn_W S Nn M rc rs pc2 (xl_s L i.val (some (.float a))) st h Po) : xn_W S Nn M rc rs pc L (.float a :: st) h Po := by
  obtain ⟨d, rfl⟩ := d
  exact xn_gs (v := .float a) hk hn (fun hX hl k => lv_astore_n hX.1 hX.2.1 d rfl hl hn rfl k) k
theorem xn_iinc {i : Nat} {n : Int} {a : Int32} (d : xl_D M pc (.iinc i n) 3 pc2) (hl : xl_n L i = some (some (.int a))) (hk : xl_k L i = true) (hn : i < M.2.2.1) (k : xn_W S Nn M rc rs pc2 (xl_s L i (some (.int (a + Int32.ofInt n)))) st h Po) : xn_W S Nn M rc rs pc L st h Po := by
  obtain ⟨d, rfl⟩ := d
  intro p l e R s m args below meth c D aC ρ σ aV A H locs cells slots ls Q hX hH hL h1 h2 hr ht hZ
  obtain ⟨q, hq⟩ := List.getElem?_of_mem (xl_p_mem.mpr ⟨_, hl, rfl⟩ : (i, xl_v ρ σ (.int a)) ∈ xl_p ρ σ L)
  exact lv_iinc hX.1 hX.2.1 d hL.has hq rfl hn rfl (fun ls' hl => k p l e R s m args below meth c D aC ρ σ aV A H locs cells slots ls' Q hX hH (xl_L.put (v := .int (a + Int32.ofInt n)) hk hl) h1 h2 hr ht hZ)
theorem xn_ret {v : Option Value} (hP : Po (some v) h) (d : xl_R M pc v) : xn_W S Nn M rc rs pc L v.toList h Po := by
  intro p l e R s m args below meth c D aC ρ σ aV A H locs cells slots ls Q hX hH hL h1 h2 hr ht hZ
  exact hr ρ v h H locs pc cells slots ls (fun _ _ => rfl) hP hH d (by omega) (by omega)
theorem xn_thr (hP : Po none h) (d : xl_Y M pc) : xn_W S Nn M (rc + 1) (rs + 6) pc L [] h Po := by
  intro p l e R s m args below meth c D aC ρ σ aV A H locs cells slots ls Q hX hH hL h1 h2 hr ht hZ
  exact ht ρ h H locs pc cells slots ls (fun _ _ => rfl) hP hH d (by omega) (by omega) hL.1
theorem xn_ireturn {a : Int32} (d : xl_D M pc .ireturn 1 pc2) (hr : M.2.2.2.1 = some .int) (hP : Po (some (some (.int a))) h) : xn_W S Nn M rc rs pc L [.int a] h Po :=
  xn_ret (v := some (.int a)) hP ⟨⟨.int, hr, rfl⟩, d.1⟩
theorem xn_zreturn {a : Int32} (d : xl_D M pc .ireturn 1 pc2) (hr : M.2.2.2.1 = some .boolean) (h01 : a = 0 ∨ a = 1) (hP : Po (some (some (.int a))) h) : xn_W S Nn M rc rs pc L [.int a] h Po :=
  xn_ret (v := some (.int a)) hP ⟨⟨.boolean, hr, by rcases h01 with rfl | rfl <;> decide⟩, d.1⟩
theorem xn_lreturn {a : Int64} (d : xl_D M pc .lreturn 1 pc2) (hr : M.2.2.2.1 = some .long) (hP : Po (some (some (.long a))) h) : xn_W S Nn M rc rs pc L [.long a] h Po :=
  xn_ret (v := some (.long a)) hP ⟨hr, d.1⟩
theorem xn_sreturn {a : UInt32} {n : String} (d : xl_D M pc .areturn 1 pc2) (hr : M.2.2.2.1 = some (.object n)) (hP : Po (some (some (.float a))) h) : xn_W S Nn M rc rs pc L [.float a] h Po :=
  xn_ret (v := some (.float a)) hP ⟨⟨n, hr⟩, d.1⟩
theorem xn_return (d : xl_D M pc .return_ 1 pc2) (hr : M.2.2.2.1 = none) (hP : Po (some none) h) : xn_W S Nn M rc rs pc L [] h Po :=
  xn_ret (v := none) hP ⟨hr, d.1⟩
theorem xn_get {ci k r : Nat} {fs : List Value} {v : Value} (d : xl_G M pc ci k pc2) (hh : xl_n h r = some (.inr (ci, fs))) (hf : xl_n fs k = some v) (kk : xn_W S Nn M rc rs pc2 L (xl_o r v :: st) h Po) : xn_W S Nn M rc rs pc L (.ref r :: st) h Po := by
  obtain ⟨i, d, rfl, C, T, N, e1, e2, e3, e4⟩ := d
  intro p l e R s m args below meth c D aC ρ σ aV A H locs cells slots ls Q hX hH hL h1 h2 hr ht hZ
  obtain ⟨hK, hP, hD, hS, hE, hA⟩ := id hH
  rw [xl_n_eq] at hh hf
  have hv : (fs.map (xl_v (fun d => ρ (r + d)) σ))[k]? = some (xl_v (fun d => ρ (r + d)) σ v) := by rw [List.getElem?_map, hf]; rfl
  refine va_get hX.1 hX.2.1 hX.2.2.2.2.2.1 e3 hX.2.2.2.2.1 hK hP r (xl_w_of hh) e1 k e2 (hX.2.2.2.2.2.1 _ e4) (fun _ h9 => h9) hv d ?_
  rw [← xl_o_v]
  exact kk p l e R s m args below meth c D aC ρ σ aV A H locs cells slots ls Q hX hH hL h1 h2 hr ht hZ
theorem xn_put {ci k r : Nat} {fs : List Value} {a : Int32} (d : xl_P M pc ci k .int pc2) (hh : xl_n h r = some (.inr (ci, fs))) (hf : k < fs.length) (kk : xn_W S Nn M rc rs pc2 L st (xl_s h r (.inr (ci, xl_s fs k (.int a)))) Po) : xn_W S Nn M rc rs pc L (.int a :: .ref r :: st) h Po := by
  obtain ⟨i, d, rfl, C, T, N, ty0, e1, e2, e3, e4, e5, e6, e7, e8⟩ := d
  intro p l e R s m args below meth c D aC ρ σ aV A H locs cells slots ls Q hX hH hL h1 h2 hr ht hZ
  obtain ⟨hK, hP, hD, hS, hE, hA⟩ := id hH
  rw [xl_n_eq] at hh
  refine va_put hX.1 hX.2.1 hX.2.2.2.2.2.1 e3 ty0 e5 e6 hX.2.2.2.2.1 hK hP hD hS r (xl_w_of hh) e1 k e2 (hX.2.2.2.2.2.1 _ e4) (fun _ h9 => h9) e7 e8 (v := .int a) rfl rfl (by rw [List.length_map]; exact hf) d (fun H1 locs1 hP1 hD1 hS1 => ?_)
  have ew : (xl_w aC ρ σ h).set r (ρ r, Sum.inr (ci, (fs.map (xl_v (fun d => ρ (r + d)) σ)).set k (.int a))) = xl_w aC ρ σ (xl_s h r (.inr (ci, xl_s fs k (.int a)))) := by
    rw [xl_s_eq, xl_s_eq, ← xl_w_set]
    show _ = (xl_w aC ρ σ h).set r (ρ r, Sum.inr (ci, (fs.set k (.int a)).map (xl_v (fun d => ρ (r + d)) σ)))
    rw [List.map_set]
    rfl
  rw [ew] at hP1 hD1
  exact kk p l e R s m args below meth c D aC ρ σ aV A H1 locs1 cells slots ls Q hX ⟨hK, hP1, hD1, hS1, hE, hA⟩ hL h1 h2 hr ht hZ
theorem xn_iald {r n : Nat} {f : Nat → Int32} {i : Int32} (d : xl_D M pc .iaload 1 pc2) (hh : xl_n h r = some (.inl (0, n, .inl f))) (hin : vp_in i n) (kk : xn_W S Nn M rc rs pc2 L (.int (f i.toNatClampNeg) :: st) h Po) : xn_W S Nn M rc rs pc L (.int i :: .ref r :: st) h Po := by
  obtain ⟨d, rfl⟩ := d
  intro p l e R s m args below meth c D aC ρ σ aV A H locs cells slots ls Q hX hH hL h1 h2 hr ht hZ
  obtain ⟨hK, hP, hD, hS, hE, hA⟩ := id hH
  rw [xl_n_eq] at hh
  exact va_iald hX.1 hX.2.1 hK hP r 0 (xl_w_of hh) rfl hin d (kk p l e R s m args below meth c D aC ρ σ aV A H locs cells slots ls Q hX hH hL h1 h2 hr ht hZ)
theorem xn_lald {r n : Nat} {f : Nat → Int64} {i : Int32} (d : xl_D M pc .laload 1 pc2) (hh : xl_n h r = some (.inl (1, n, .inr (.inl f)))) (hin : vp_in i n) (kk : xn_W S Nn M rc rs pc2 L (.long (f i.toNatClampNeg) :: st) h Po) : xn_W S Nn M rc rs pc L (.int i :: .ref r :: st) h Po := by
  obtain ⟨d, rfl⟩ := d
  intro p l e R s m args below meth c D aC ρ σ aV A H locs cells slots ls Q hX hH hL h1 h2 hr ht hZ
  obtain ⟨hK, hP, hD, hS, hE, hA⟩ := id hH
  rw [xl_n_eq] at hh
  exact va_lald hX.1 hX.2.1 hK hP r 1 (xl_w_of hh) rfl hin d (kk p l e R s m args below meth c D aC ρ σ aV A H locs cells slots ls Q hX hH hL h1 h2 hr ht hZ)
theorem xn_zald {r n : Nat} {f : Nat → Int32} {i : Int32} (d : xl_D M pc .baload 1 pc2) (hh : xl_n h r = some (.inl (2, n, .inl f))) (hin : vp_in i n) (kk : xn_W S Nn M rc rs pc2 L (.int (f i.toNatClampNeg) :: st) h Po) : xn_W S Nn M rc rs pc L (.int i :: .ref r :: st) h Po := by
  obtain ⟨d, rfl⟩ := d
  intro p l e R s m args below meth c D aC ρ σ aV A H locs cells slots ls Q hX hH hL h1 h2 hr ht hZ
  obtain ⟨hK, hP, hD, hS, hE, hA⟩ := id hH
  rw [xl_n_eq] at hh
  exact va_zald hX.1 hX.2.1 hK hP r 2 (xl_w_of hh) rfl hin d (kk p l e R s m args below meth c D aC ρ σ aV A H locs cells slots ls Q hX hH hL h1 h2 hr ht hZ)
theorem xn_aald {r n q : Nat} {f : Nat → Option Nat} {i : Int32} (d : xl_D M pc .aaload 1 pc2) (hh : xl_n h r = some (.inl (3, n, .inr (.inr (.inr (.inr f)))))) (hin : vp_in i n) (hq : f i.toNatClampNeg = some q) (kk : xn_W S Nn M rc rs pc2 L (.ref (r + q) :: st) h Po) : xn_W S Nn M rc rs pc L (.int i :: .ref r :: st) h Po := by
  obtain ⟨d, rfl⟩ := d
  intro p l e R s m args below meth c D aC ρ σ aV A H locs cells slots ls Q hX hH hL h1 h2 hr ht hZ
  obtain ⟨hK, hP, hD, hS, hE, hA⟩ := id hH
  rw [xl_n_eq] at hh
  refine va_aldq hX.1 hX.2.1 hK hP r 3 (xl_w_of hh) rfl hin d ?_
  rw [show va_rf ((f i.toNatClampNeg).map (fun d => ρ (r + d))) = .ref (ρ (r + q)) by rw [hq]; rfl]
  exact kk p l e R s m args below meth c D aC ρ σ aV A H locs cells slots ls Q hX hH hL h1 h2 hr ht hZ
theorem xn_alen {r n : Nat} {t : Nat} {a : (Nat → Int32) ⊕ (Nat → Int64) ⊕ (Nat → UInt32) ⊕ (Nat → UInt64) ⊕ (Nat → Option Nat)} (d : xl_D M pc .arraylength 1 pc2) (hh : xl_n h r = some (.inl (t, n, a))) (ht4 : t < 4) (kk : xn_W S Nn M rc rs pc2 L (.int (nI n) :: st) h Po) : xn_W S Nn M rc rs pc L (.ref r :: st) h Po := by
  obtain ⟨d, rfl⟩ := d
  intro p l e R s m args below meth c D aC ρ σ aV A H locs cells slots ls Q hX hH hL h1 h2 hr ht hZ
  obtain ⟨hK, hP, hD, hS, hE, hA⟩ := id hH
  rw [xl_n_eq] at hh
  have kk := kk p l e R s m args below meth c D aC ρ σ aV A H locs cells slots ls Q hX hH hL h1 h2 hr ht hZ
  match t, ht4, hh with
  | 0, _, hh => exact va_alen hX.1 hX.2.1 hK hP r 0 (xl_w_of hh) rfl rfl d kk
  | 1, _, hh => exact va_alen hX.1 hX.2.1 hK hP r 1 (xl_w_of hh) rfl rfl d kk
  | 2, _, hh => exact va_alen hX.1 hX.2.1 hK hP r 2 (xl_w_of hh) rfl rfl d kk
  | 3, _, hh => exact va_alen hX.1 hX.2.1 hK hP r 3 (xl_w_of hh) rfl rfl d kk
theorem xn_iast {r n : Nat} {f : Nat → Int32} {i a : Int32} (d : xl_D M pc .iastore 1 pc2) (hh : xl_n h r = some (.inl (0, n, .inl f))) (hin : vp_in i n) (kk : xn_W S Nn M rc rs pc2 L st (xl_s h r (.inl (0, n, .inl (upd f i.toNatClampNeg a)))) Po) : xn_W S Nn M rc rs pc L (.int a :: .int i :: .ref r :: st) h Po := by
  obtain ⟨d, rfl⟩ := d
  intro p l e R s m args below meth c D aC ρ σ aV A H locs cells slots ls Q hX hH hL h1 h2 hr ht hZ
  obtain ⟨hK, hP, hD, hS, hE, hA⟩ := id hH
  rw [xl_n_eq] at hh
  refine va_iast hX.1 hX.2.1 hK hP hD hS r 0 (xl_w_of hh) rfl hin d (fun H1 locs1 hP1 hD1 hS1 => ?_)
  exact kk p l e R s m args below meth c D aC ρ σ aV A H1 locs1 cells slots ls Q hX ⟨hK, by rw [xl_w_s]; exact hP1, by rw [xl_w_s]; exact hD1, hS1, hE, hA⟩ hL h1 h2 hr ht hZ
theorem xn_last {r n : Nat} {f : Nat → Int64} {i : Int32} {a : Int64} (d : xl_D M pc .lastore 1 pc2) (hh : xl_n h r = some (.inl (1, n, .inr (.inl f)))) (hin : vp_in i n) (kk : xn_W S Nn M rc rs pc2 L st (xl_s h r (.inl (1, n, .inr (.inl (vp_updL f i.toNatClampNeg a))))) Po) : xn_W S Nn M rc rs pc L (.long a :: .int i :: .ref r :: st) h Po := by
  obtain ⟨d, rfl⟩ := d
  intro p l e R s m args below meth c D aC ρ σ aV A H locs cells slots ls Q hX hH hL h1 h2 hr ht hZ
  obtain ⟨hK, hP, hD, hS, hE, hA⟩ := id hH
  rw [xl_n_eq] at hh
  refine va_last hX.1 hX.2.1 hK hP hD hS r 1 (xl_w_of hh) rfl hin d (fun H1 locs1 hP1 hD1 hS1 => ?_)
  exact kk p l e R s m args below meth c D aC ρ σ aV A H1 locs1 cells slots ls Q hX ⟨hK, by rw [xl_w_s]; exact hP1, by rw [xl_w_s]; exact hD1, hS1, hE, hA⟩ hL h1 h2 hr ht hZ
theorem xn_zast {r n : Nat} {f : Nat → Int32} {i a : Int32} (d : xl_D M pc .bastore 1 pc2) (hh : xl_n h r = some (.inl (2, n, .inl f))) (hin : vp_in i n) (kk : xn_W S Nn M rc rs pc2 L st (xl_s h r (.inl (2, n, .inl (upd f i.toNatClampNeg (vp_nar .boolean a))))) Po) : xn_W S Nn M rc rs pc L (.int a :: .int i :: .ref r :: st) h Po := by
  obtain ⟨d, rfl⟩ := d
  intro p l e R s m args below meth c D aC ρ σ aV A H locs cells slots ls Q hX hH hL h1 h2 hr ht hZ
  obtain ⟨hK, hP, hD, hS, hE, hA⟩ := id hH
  rw [xl_n_eq] at hh
  refine va_zast hX.1 hX.2.1 hK hP hD hS r 2 (xl_w_of hh) rfl hin d (fun H1 locs1 hP1 hD1 hS1 => ?_)
  exact kk p l e R s m args below meth c D aC ρ σ aV A H1 locs1 cells slots ls Q hX ⟨hK, by rw [xl_w_s]; exact hP1, by rw [xl_w_s]; exact hD1, hS1, hE, hA⟩ hL h1 h2 hr ht hZ
end XN
/-! ===== the script ===== -/
section XNS
variable {Nn : Nat} {M : XI} {rc rs pc pc2 : Nat} {L : List (Option Value)} {st : List Value} {h : XH} {Po : Option (Option Value) → XH → Prop} {N : Nat} {xs : Nat → Int32} {Zz : (Nat → Prop) → State → Prop}
theorem xn_sld {i : Int32} (d : xl_D M pc .iaload 1 pc2) (hin : vp_in i N) (kk : xn_W (some (N, xs, Zz)) Nn M rc rs pc2 L (.int (xs i.toNatClampNeg) :: st) h Po) : xn_W (some (N, xs, Zz)) Nn M rc rs pc L (.int i :: .float 99 :: st) h Po := by
  obtain ⟨d, rfl⟩ := d
  intro p l e R s m args below meth c D aC ρ σ aV A H locs cells slots ls Q hX hH hL h1 h2 hr ht hZ
  obtain ⟨z1, z2, z3, -⟩ := hZ.2.2
  exact va_sld hX.1 hX.2.1 z1 z2 z3 hH.2.2.2.1 hin d (kk p l e R s m args below meth c D aC ρ σ aV A H locs cells slots ls Q hX hH hL h1 h2 hr ht hZ)
theorem xn_slen (d : xl_D M pc .arraylength 1 pc2) (kk : xn_W (some (N, xs, Zz)) Nn M rc rs pc2 L (.int (nI N) :: st) h Po) : xn_W (some (N, xs, Zz)) Nn M rc rs pc L (.float 99 :: st) h Po := by
  obtain ⟨d, rfl⟩ := d
  intro p l e R s m args below meth c D aC ρ σ aV A H locs cells slots ls Q hX hH hL h1 h2 hr ht hZ
  obtain ⟨z1, z2, z3, -⟩ := hZ.2.2
  exact va_slen hX.1 hX.2.1 z1 z2 z3 hH.2.2.2.1 d (kk p l e R s m args below meth c D aC ρ σ aV A H locs cells slots ls Q hX hH hL h1 h2 hr ht hZ)
end XNS
