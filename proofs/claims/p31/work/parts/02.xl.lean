/-! ===== a method's state as plain data: a list of cells by places (references in cells are relative: 'this place and so many more'), locals and stack with places for addresses; xl_W: from here the method comes to its end, with Po ===== -/
def xl_n {α : Type} : List α → Nat → Option α
  | [], _ => none
  | a :: _, 0 => some a
  | _ :: l, k + 1 => xl_n l k
def xl_s {α : Type} : List α → Nat → α → List α
  | [], _, _ => []
  | _ :: l, 0, b => b :: l
  | a :: l, k + 1, b => a :: xl_s l k b
theorem xl_n_eq {α : Type} : ∀ (l : List α) (k : Nat), xl_n l k = l[k]?
  | [], k => by simp [xl_n]
  | a :: l, 0 => by simp [xl_n]
  | a :: l, k + 1 => by rw [xl_n, xl_n_eq l k]; simp
theorem xl_s_eq {α : Type} : ∀ (l : List α) (k : Nat) (b : α), xl_s l k b = l.set k b
  | [], k, b => by simp [xl_s]
  | a :: l, 0, b => by simp [xl_s]
  | a :: l, k + 1, b => by rw [xl_s, xl_s_eq l k b]; simp
abbrev XI : Type := MethodName × ByteArray × Nat × Option FieldType × Nat × Nat × Nat
abbrev XE : Type := (Nat × vp_A) ⊕ (Nat × List Value)
abbrev XH : Type := List XE
/-- a value: a reference is a place, a float stands for a String constant -/
def xl_v (ρ σ : Nat → Nat) : Value → Value := fun v => match v with
  | .ref k => .ref (ρ k)
  | .float j => .ref (σ j.toNat)
  | .int a => .int a
  | .long a => .long a
  | .double a => .double a
  | .null => .null
  | .retAddr a => .retAddr a
def xl_a (ρ : Nat → Nat) (k : Nat) : ((Nat → Int32) ⊕ (Nat → Int64) ⊕ (Nat → UInt32) ⊕ (Nat → UInt64) ⊕ (Nat → Option Nat)) → ((Nat → Int32) ⊕ (Nat → Int64) ⊕ (Nat → UInt32) ⊕ (Nat → UInt64) ⊕ (Nat → Option Nat)) := fun a => match a with
  | .inl f => .inl f
  | .inr (.inl f) => .inr (.inl f)
  | .inr (.inr (.inl f)) => .inr (.inr (.inl f))
  | .inr (.inr (.inr (.inl f))) => .inr (.inr (.inr (.inl f)))
  | .inr (.inr (.inr (.inr f))) => .inr (.inr (.inr (.inr (fun j => (f j).map (fun d => ρ (k + d))))))
def xl_c (aC : Nat → ClassId) (ρ σ : Nat → Nat) (k : Nat) : XE → va_E := fun c => match c with
  | .inl a => .inl (aC a.1, a.2.1, xl_a ρ k a.2.2)
  | .inr o => .inr (o.1, o.2.map (xl_v (fun d => ρ (k + d)) σ))
def xl_w (aC : Nat → ClassId) (ρ σ : Nat → Nat) (h : XH) : va_W := h.mapIdx (fun k c => (ρ k, xl_c aC ρ σ k c))
theorem xl_w_at (aC : Nat → ClassId) (ρ σ : Nat → Nat) (h : XH) (k : Nat) : (xl_w aC ρ σ h)[k]? = (h[k]?).map (fun c => (ρ k, xl_c aC ρ σ k c)) := by
  rw [xl_w, List.getElem?_mapIdx]
theorem xl_w_of {aC : Nat → ClassId} {ρ σ : Nat → Nat} {h : XH} {k : Nat} {c : XE} (e : h[k]? = some c) : (xl_w aC ρ σ h)[k]? = some (ρ k, xl_c aC ρ σ k c) := by
  rw [xl_w_at, e]; rfl
theorem xl_w_inv {aC : Nat → ClassId} {ρ σ : Nat → Nat} {h : XH} {k : Nat} {q : Nat × va_E} (e : (xl_w aC ρ σ h)[k]? = some q) : ∃ c, h[k]? = some c ∧ q = (ρ k, xl_c aC ρ σ k c) := by
  rw [xl_w_at] at e
  cases hh : h[k]? with
  | none => rw [hh] at e; cases e
  | some c => rw [hh] at e; exact ⟨c, rfl, (Option.some.inj e).symm⟩
theorem xl_w_set {aC : Nat → ClassId} {ρ σ : Nat → Nat} {h : XH} {k : Nat} {c : XE} : (xl_w aC ρ σ h).set k (ρ k, xl_c aC ρ σ k c) = xl_w aC ρ σ (h.set k c) := by
  apply List.ext_getElem?
  intro i
  rw [List.getElem?_set, xl_w_at, xl_w_at, List.getElem?_set]
  by_cases hi : k = i
  · subst hi
    simp only [if_true]
    by_cases hl : k < h.length
    · simp [xl_w, hl]
    · simp [xl_w, hl]
  · simp [hi]
theorem xl_w_s {aC : Nat → ClassId} {ρ σ : Nat → Nat} {h : XH} {k : Nat} {c : XE} : xl_w aC ρ σ (xl_s h k c) = (xl_w aC ρ σ h).set k (ρ k, xl_c aC ρ σ k c) := by
  rw [xl_s_eq, xl_w_set]
/-- the addresses, apart -/
def xl_ap (A : Nat → Prop) (ρ : Nat → Nat) (n : Nat) : Prop := (∀ i j, i < n → j < n → ρ i = ρ j → i = j) ∧ ∀ i, i < n → A (ρ i)
theorem xl_ap_of {A : Nat → Prop} {aC : Nat → ClassId} {ρ σ : Nat → Nat} {h : XH} (hD : va_D A (xl_w aC ρ σ h)) : xl_ap A ρ h.length := by
  have key : ∀ i (hi : i < h.length), (xl_w aC ρ σ h)[i]? = some (ρ i, xl_c aC ρ σ i h[i]) := fun i hi => xl_w_of (List.getElem?_eq_getElem hi)
  exact ⟨fun i j hi hj e => hD.1 i j _ _ (key i hi) (key j hj) e, fun i hi => hD.2 i _ (key i hi)⟩
theorem xl_D_of {A : Nat → Prop} {aC : Nat → ClassId} {ρ σ : Nat → Nat} {h : XH} (hD : xl_ap A ρ h.length) : va_D A (xl_w aC ρ σ h) := by
  have key : ∀ (k : Nat) (q : Nat × va_E), (xl_w aC ρ σ h)[k]? = some q → k < h.length ∧ q.1 = ρ k := by
    intro k q hq
    obtain ⟨c, e1, e2⟩ := xl_w_inv hq
    exact ⟨(List.getElem?_eq_some_iff.mp e1).1, by rw [e2]⟩
  refine ⟨fun i j p q hi hj e => ?_, fun k q hk => ?_⟩
  · obtain ⟨a1, a2⟩ := key i p hi
    obtain ⟨b1, b2⟩ := key j q hj
    exact hD.1 i j a1 b1 (by rw [← a2, ← b2]; exact e)
  · obtain ⟨a1, a2⟩ := key k q hk
    rw [a2]; exact hD.2 k a1
/-- the words that every method may use -/
def xl_T : List Cond := lw_tbl.filter goodWord
theorem xl_Tg : ∀ w ∈ xl_T, goodWord w = true := fun w h => (List.mem_filter.mp h).2
theorem xl_Ti {w : Cond} (i : Nat) (h : lw_tbl[i]? = some w) (g : goodWord w = true) : w ∈ xl_T := List.mem_filter.mpr ⟨List.mem_of_getElem? h, g⟩
abbrev vwCl : List vw_C := [(RX0, TX0, 4), (RX1, TX1, 16), (RX2, TX2, 13), (RX3, TX3, 23)]
abbrev xl_ty (aC : Nat → ClassId) : List (ClassId × FieldType) := [(aC 0, .int), (aC 1, .long), (aC 2, .boolean), (aC 3, .object RX1)]
/-- the String constants: class, entry, text, bytes -/
def xl_sn : Nat := 9
def xl_sc : Nat → String × Nat × String := fun j => match j with
  | 0 => (RX2, 306, "kddddsddn")
  | 1 => (RX2, 316, "kddddsddd")
  | 2 => (RX2, 318, "dddddd")
  | 3 => (RX2, 320, "d")
  | 4 => (RX2, 322, "")
  | 5 => (RX3, 237, "abcdef")
  | 6 => (RX3, 41, "0123456789")
  | 7 => (RX3, 242, "+-")
  | _ => (RX3, 297, "emi")
def xl_sb : List (List Int32) := [[107, 100, 100, 100, 100, 115, 100, 100, 110], [107, 100, 100, 100, 100, 115, 100, 100, 100], [100, 100, 100, 100, 100, 100], [100], [], [97, 98, 99, 100, 101, 102], [48, 49, 50, 51, 52, 53, 54, 55, 56, 57], [43, 45], [101, 109, 105]]
def xl_sl : List Nat := [9, 9, 6, 1, 0, 6, 10, 2, 3]
def xl_S (σ aV : Nat → Nat) (A : Nat → Prop) (U : State) (H : Heap) : Prop := vk_S xl_sn xl_sl xl_sb σ aV A U H ∧ va_Z "java/lang/String" "COMPACT_STRINGS" "Z" (.int 1) A U H ∧ (va_Z "jdk/internal/util/Preconditions" "SIOOBE_FORMATTER" "Ljava/util/function/BiFunction;" .null A U H ∨ va_Z "jdk/internal/util/Preconditions" "SIOOBE_FORMATTER" "Ljava/util/function/BiFunction;" (.ref (σ 300)) A U H) ∧ (∀ j, j < xl_sn → vk_R (xl_sc j).1 (xl_sc j).2.1 (xl_sc j).2.2 (σ j) U) ∧ ∀ j, j < xl_sn → σ (200 + j) = aV j
theorem xl_S.moved {σ aV : Nat → Nat} {A : Nat → Prop} {u U : State} {H : Heap} (hW : u.WarmedH U.vm) (h : xl_S σ aV A u H) : xl_S σ aV A U H :=
  ⟨vk_S.moved hW.alike h.1, va_Z.moved hW.alike h.2.1, h.2.2.1.imp (va_Z.moved hW.alike) (va_Z.moved hW.alike), fun j hj => vk_R.warm hW (h.2.2.2.1 j hj), h.2.2.2.2⟩
theorem xl_S.same {σ aV : Nat → Nat} {A : Nat → Prop} {u U : State} {H : Heap} (hv : U.vm = u.vm) (h : xl_S σ aV A u H) : xl_S σ aV A U H :=
  ⟨vk_S.moved (by rw [hv]; exact Vm.Alike.refl _) h.1, va_Z.moved (by rw [hv]; exact Vm.Alike.refl _) h.2.1, h.2.2.1.imp (va_Z.moved (by rw [hv]; exact Vm.Alike.refl _)) (va_Z.moved (by rw [hv]; exact Vm.Alike.refl _)), fun j hj => vk_R.same hv (h.2.2.2.1 j hj), h.2.2.2.2⟩
theorem xl_S.kept {σ aV : Nat → Nat} {A : Nat → Prop} {U : State} {H H1 : Heap} (h : xl_S σ aV A U H) (hq : ∀ a : Nat, a < H.size → ¬ A a → H1[a]? = H[a]?) : xl_S σ aV A U H1 :=
  ⟨vk_S.kept h.1 hq, va_Z.kept h.2.1 hq, h.2.2.1.imp (fun q => va_Z.kept q hq) (fun q => va_Z.kept q hq), h.2.2.2⟩
theorem xl_S.narrow {σ aV : Nat → Nat} {A B : Nat → Prop} {U : State} {H : Heap} (h : xl_S σ aV A U H) (hAB : ∀ q, B q → A q) : xl_S σ aV B U H :=
  ⟨vk_S.narrow h.1 hAB, va_Z.narrow h.2.1 hAB, h.2.2.1.imp (fun q => va_Z.narrow q hAB) (fun q => va_Z.narrow q hAB), h.2.2.2⟩
/-- the machine, the code, the tables -/
def xl_X (M : XI) (l : Launch) (p : Program) (R : Room) (s : State) (m : MethodId) (args : Array Value) (meth : Method) (c : Code) : Prop :=
  p.tables.exec = Jvm.exec ∧ c.code = M.2.1 ∧ meth.sig.returnType = M.2.2.2.1 ∧ c.maxLocals = M.2.2.1 ∧ s.vm.findClass M.1.cls = some m.cls ∧ (∀ w ∈ xl_T, w.before args s = true) ∧ meth.locks = false ∧ M.2.2.2.2.1 ≤ R.frames ∧ M.2.2.2.2.2.1 ≤ R.locals ∧ l.flags = flags0
/-- the cells -/
def xl_H (D : va_G) (aC : Nat → ClassId) (ρ σ aV : Nat → Nat) (A : Nat → Prop) (s : State) (H : Heap) (locs : List Loc) (h : XH) : Prop :=
  va_K D vwCl (xl_ty aC) s ∧ va_P D vwCl (xl_w aC ρ σ h) H ∧ va_D A (xl_w aC ρ σ h) ∧ va_S A s.heap H locs ∧ xl_S σ aV A s s.heap ∧ ∀ q, s.heap.size ≤ q → A q
/-- the locals -/
def xl_L (ρ σ : Nat → Nat) (n : Nat) (ls : Array Slot) (L : List (Option Value)) : Prop := ls.size = n ∧ lv_wf ls ∧ ∀ (i : Nat) (v : Value), xl_n L i = some (some v) → ls[i]? = some (.val (xl_v ρ σ v))
/-- a return instruction for a value -/
def xl_R (M : XI) (pc : Nat) (v : Option Value) : Prop := match v with
  | none => M.2.2.2.1 = none ∧ decode M.2.1 pc = .ok (.return_, 1)
  | some (.int a) => (∃ ty, M.2.2.2.1 = some ty ∧ narrow ty (.int a) = .int a) ∧ decode M.2.1 pc = .ok (.ireturn, 1)
  | some (.long _) => M.2.2.2.1 = some .long ∧ decode M.2.1 pc = .ok (.lreturn, 1)
  | some (.float _) => (∃ n, M.2.2.2.1 = some (.object n)) ∧ decode M.2.1 pc = .ok (.areturn, 1)
  | some _ => False
/-- where a method makes its exception: new, dup, <init>, athrow -/
def xl_Y (M : XI) (pc : Nat) : Prop := ∃ i j, decode M.2.1 pc = .ok (.new i, 3) ∧ decode M.2.1 (pc + 3) = .ok (.dup, 1) ∧ decode M.2.1 (pc + 4) = .ok (.invokespecial j, 3) ∧ decode M.2.1 (pc + 7) = .ok (.athrow, 1)
def xl_W (M : XI) (rc rs pc : Nat) (L : List (Option Value)) (st : List Value) (h : XH) (Po : Option (Option Value) → XH → Prop) : Prop :=
  ∀ (p : Program) (l : Launch) (e : Env) (R : Room) (s : State) (m : MethodId) (args : Array Value) (below : List Frame) (meth : Method) (c : Code) (D : va_G) (aC : Nat → ClassId) (ρ σ aV : Nat → Nat) (A : Nat → Prop) (H : Heap) (locs : List Loc) (cells slots : Nat) (ls : Array Slot) (Q : State → Prop),
    xl_X M l p R s m args meth c → xl_H D aC ρ σ aV A s H locs h → xl_L ρ σ M.2.2.1 ls L → cells + rc ≤ R.cells → slots + rs ≤ R.slots →
    (∀ (v : Option Value) (h' : XH) (H' : Heap) (locs' : List Loc) (pc' cells' slots' : Nat) (ls' : Array Slot), Po (some v) h' → xl_H D aC ρ σ aV A s H' locs' h' → xl_R M pc' v → cells' ≤ cells + rc → slots' ≤ slots + rs → W p l e R s m args below meth c H' locs' cells' slots' Q (F0 m pc' ls' (v.toList.map (xl_v ρ σ)))) →
    (∀ (h' : XH) (H' : Heap) (locs' : List Loc) (pc' cells' slots' : Nat) (ls' : Array Slot), Po none h' → xl_H D aC ρ σ aV A s H' locs' h' → xl_Y M pc' → cells' + 1 ≤ cells + rc → slots' + 6 ≤ slots + rs → ls'.size = M.2.2.1 → W p l e R s m args below meth c H' locs' cells' slots' Q (F0 m pc' ls' [])) →
    W p l e R s m args below meth c H locs cells slots Q (F0 m pc ls (st.map (xl_v ρ σ)))
/-- an instruction: what stands at pc, and the place behind it -/
def xl_D (M : XI) (pc : Nat) (i : Instr) (n pc2 : Nat) : Prop := decode M.2.1 pc = .ok (i, n) ∧ pc + n = pc2
/-- a branch -/
def xl_J (M : XI) (pc : Nat) (f : Int → Instr) (pc2 tgt : Nat) : Prop := ∃ off : Int, decode M.2.1 pc = .ok (f off, 3) ∧ (pc : Int) + off = (tgt : Int) ∧ pc + 3 = pc2
section XL
variable {M : XI} {rc rs pc pc2 tgt : Nat} {L : List (Option Value)} {st st2 : List Value} {h : XH} {Po : Option (Option Value) → XH → Prop}
/-- instructions that touch the stack alone -/
theorem xl_go (f : ∀ {p : Program} {l : Launch} {e : Env} {R : Room} {s : State} {m : MethodId} {args : Array Value} {below : List Frame} {meth : Method} {c : Code} {H : Heap} {locs : List Loc} {cells slots : Nat} {Q : State → Prop} {ls : Array Slot} {ρ σ : Nat → Nat}, xl_X M l p R s m args meth c → W p l e R s m args below meth c H locs cells slots Q (F0 m pc2 ls (st2.map (xl_v ρ σ))) → W p l e R s m args below meth c H locs cells slots Q (F0 m pc ls (st.map (xl_v ρ σ))))
    (k : xl_W M rc rs pc2 L st2 h Po) : xl_W M rc rs pc L st h Po := by
  intro p l e R s m args below meth c D aC ρ σ aV A H locs cells slots ls Q hX hH hL h1 h2 hr ht
  exact f hX (k p l e R s m args below meth c D aC ρ σ aV A H locs cells slots ls Q hX hH hL h1 h2 hr ht)
theorem xl_iconst {n : Int} (v : Int32) (d : xl_D M pc (.iconst n) 1 pc2) (hv : Int32.ofInt n = v) (k : xl_W M rc rs pc2 L (.int v :: st) h Po) : xl_W M rc rs pc L st h Po := by
  obtain ⟨d, rfl⟩ := d
  exact xl_go (fun hX k => lv_iconst hX.1 hX.2.1 d hv k) k
theorem xl_bipush {n : Int} (v : Int32) (d : xl_D M pc (.bipush n) 2 pc2) (hv : (Int8.ofInt n).toInt32 = v) (k : xl_W M rc rs pc2 L (.int v :: st) h Po) : xl_W M rc rs pc L st h Po := by
  obtain ⟨d, rfl⟩ := d
  exact xl_go (fun hX k => lv_bipush hX.1 hX.2.1 d hv k) k
theorem xl_sipush {n : Int} (v : Int32) (d : xl_D M pc (.sipush n) 3 pc2) (hv : (Int16.ofInt n).toInt32 = v) (k : xl_W M rc rs pc2 L (.int v :: st) h Po) : xl_W M rc rs pc L st h Po := by
  obtain ⟨d, rfl⟩ := d
  exact xl_go (fun hX k => lv_sipush hX.1 hX.2.1 d hv k) k
theorem xl_lconst {n : Fin 2} (v : Int64) (d : xl_D M pc (.lconst n) 1 pc2) (hv : Int64.ofNat (n : Nat) = v) (k : xl_W M rc rs pc2 L (.long v :: st) h Po) : xl_W M rc rs pc L st h Po := by
  obtain ⟨d, rfl⟩ := d
  exact xl_go (fun hX k => lv_lconst hX.1 hX.2.1 d hv k) k
theorem xl_ldcw {i : Nat} {v : Int32} (d : xl_D M pc (.ldc_w i) 3 pc2) (hw : Cond.constant M.1.cls i v ∈ xl_T) (k : xl_W M rc rs pc2 L (.int v :: st) h Po) : xl_W M rc rs pc L st h Po := by
  obtain ⟨d, rfl⟩ := d
  exact xl_go (fun hX k => lv_ldcw hX.1 hX.2.1 hX.2.2.2.2.1 (hX.2.2.2.2.2.1 _ hw) d k) k
theorem xl_ldc2 {i : Nat} {v : Int64} (d : xl_D M pc (.ldc2_w i) 3 pc2) (hw : Cond.constantLong M.1.cls i v ∈ xl_T) (k : xl_W M rc rs pc2 L (.long v :: st) h Po) : xl_W M rc rs pc L st h Po := by
  obtain ⟨d, rfl⟩ := d
  exact xl_go (fun hX k => lv_ldc2 hX.1 hX.2.1 hX.2.2.2.2.1 (hX.2.2.2.2.2.1 _ hw) d k) k
theorem xl_iadd {a b : Int32} (d : xl_D M pc .iadd 1 pc2) (k : xl_W M rc rs pc2 L (.int (a + b) :: st) h Po) : xl_W M rc rs pc L (.int b :: .int a :: st) h Po := by
  obtain ⟨d, rfl⟩ := d
  exact xl_go (fun hX k => lv_iadd hX.1 hX.2.1 d k) k
theorem xl_isub {a b : Int32} (d : xl_D M pc .isub 1 pc2) (k : xl_W M rc rs pc2 L (.int (a - b) :: st) h Po) : xl_W M rc rs pc L (.int b :: .int a :: st) h Po := by
  obtain ⟨d, rfl⟩ := d
  exact xl_go (fun hX k => lv_isub hX.1 hX.2.1 d k) k
theorem xl_imul {a b : Int32} (d : xl_D M pc .imul 1 pc2) (k : xl_W M rc rs pc2 L (.int (a * b) :: st) h Po) : xl_W M rc rs pc L (.int b :: .int a :: st) h Po := by
  obtain ⟨d, rfl⟩ := d
  exact xl_go (fun hX k => lv_imul hX.1 hX.2.1 d k) k
theorem xl_iand {a b : Int32} (d : xl_D M pc .iand 1 pc2) (k : xl_W M rc rs pc2 L (.int (a &&& b) :: st) h Po) : xl_W M rc rs pc L (.int b :: .int a :: st) h Po := by
  obtain ⟨d, rfl⟩ := d
  exact xl_go (fun hX k => lv_iand hX.1 hX.2.1 d k) k
theorem xl_ior {a b : Int32} (d : xl_D M pc .ior 1 pc2) (k : xl_W M rc rs pc2 L (.int (a ||| b) :: st) h Po) : xl_W M rc rs pc L (.int b :: .int a :: st) h Po := by
  obtain ⟨d, rfl⟩ := d
  exact xl_go (fun hX k => lv_ior hX.1 hX.2.1 d k) k
theorem xl_ishl {a b : Int32} (d : xl_D M pc .ishl 1 pc2) (k : xl_W M rc rs pc2 L (.int (a <<< (b &&& 31)) :: st) h Po) : xl_W M rc rs pc L (.int b :: .int a :: st) h Po := by
  obtain ⟨d, rfl⟩ := d
  exact xl_go (fun hX k => lv_ishl hX.1 hX.2.1 d k) k
theorem xl_ishr {a b : Int32} (d : xl_D M pc .ishr 1 pc2) (k : xl_W M rc rs pc2 L (.int (a >>> (b &&& 31)) :: st) h Po) : xl_W M rc rs pc L (.int b :: .int a :: st) h Po := by
  obtain ⟨d, rfl⟩ := d
  exact xl_go (fun hX k => lv_ishr hX.1 hX.2.1 d k) k
theorem xl_iushr {a b : Int32} (d : xl_D M pc .iushr 1 pc2) (k : xl_W M rc rs pc2 L (.int (a.toUInt32 >>> (b.toUInt32 &&& Int32.toUInt32 31)).toInt32 :: st) h Po) : xl_W M rc rs pc L (.int b :: .int a :: st) h Po := by
  obtain ⟨d, rfl⟩ := d
  exact xl_go (fun hX k => lv_iushr hX.1 hX.2.1 d rfl k) k
theorem xl_idiv {a b : Int32} (d : xl_D M pc .idiv 1 pc2) (hne : ¬ b = 0) (k : xl_W M rc rs pc2 L (.int (a / b) :: st) h Po) : xl_W M rc rs pc L (.int b :: .int a :: st) h Po := by
  obtain ⟨d, rfl⟩ := d
  exact xl_go (fun hX k => lv_idiv hX.1 hX.2.1 d hne k) k
theorem xl_irem {a b : Int32} (d : xl_D M pc .irem 1 pc2) (hne : ¬ b = 0) (k : xl_W M rc rs pc2 L (.int (a - a / b * b) :: st) h Po) : xl_W M rc rs pc L (.int b :: .int a :: st) h Po := by
  obtain ⟨d, rfl⟩ := d
  exact xl_go (fun hX k => lv_irem hX.1 hX.2.1 d hne k) k
theorem xl_ineg {a : Int32} (d : xl_D M pc .ineg 1 pc2) (k : xl_W M rc rs pc2 L (.int (-a) :: st) h Po) : xl_W M rc rs pc L (.int a :: st) h Po := by
  obtain ⟨d, rfl⟩ := d
  exact xl_go (fun hX k => lv_ineg hX.1 hX.2.1 d k) k
theorem xl_i2l {a : Int32} (d : xl_D M pc .i2l 1 pc2) (k : xl_W M rc rs pc2 L (.long a.toInt64 :: st) h Po) : xl_W M rc rs pc L (.int a :: st) h Po := by
  obtain ⟨d, rfl⟩ := d
  exact xl_go (fun hX k => lv_i2l hX.1 hX.2.1 d rfl k) k
theorem xl_lcmp {a b : Int64} (d : xl_D M pc .lcmp 1 pc2) (k : xl_W M rc rs pc2 L (.int (lg_cmp a b) :: st) h Po) : xl_W M rc rs pc L (.long b :: .long a :: st) h Po := by
  obtain ⟨d, rfl⟩ := d
  exact xl_go (fun hX k => W.lcmp hX.1 hX.2.1 d k) k
/-- of one word -/
def xl_1 : Value → Bool := fun v => match v with
  | .long _ => false
  | .double _ => false
  | _ => true
theorem xl_1c {v : Value} {ρ σ : Nat → Nat} (h : xl_1 v = true) : (xl_v ρ σ v).category = 1 := by
  cases v <;> first | rfl | cases h
theorem xl_dup {a : Value} (d : xl_D M pc .dup 1 pc2) (ha : xl_1 a = true) (k : xl_W M rc rs pc2 L (a :: a :: st) h Po) : xl_W M rc rs pc L (a :: st) h Po := by
  obtain ⟨d, rfl⟩ := d
  exact xl_go (fun hX k => lv_dup hX.1 hX.2.1 d (xl_1c ha) k) k
theorem xl_pop {a : Value} (d : xl_D M pc .pop 1 pc2) (ha : xl_1 a = true) (k : xl_W M rc rs pc2 L st h Po) : xl_W M rc rs pc L (a :: st) h Po := by
  obtain ⟨d, rfl⟩ := d
  exact xl_go (fun hX k => lv_pop hX.1 hX.2.1 d (xl_1c ha) k) k
theorem xl_dup2 {a b : Value} (d : xl_D M pc .dup2 1 pc2) (ha : xl_1 a = true) (hb : xl_1 b = true) (k : xl_W M rc rs pc2 L (a :: b :: a :: b :: st) h Po) : xl_W M rc rs pc L (a :: b :: st) h Po := by
  obtain ⟨d, rfl⟩ := d
  exact xl_go (fun hX k => lv_dup2_11 hX.1 hX.2.1 d (xl_1c ha) (xl_1c hb) k) k
theorem xl_goto (d : xl_J M pc (fun o => .goto o) pc2 tgt) (k : xl_W M rc rs tgt L st h Po) : xl_W M rc rs pc L st h Po := by
  obtain ⟨off, d, e1, -⟩ := d
  exact xl_go (fun hX k => lv_goto hX.1 hX.2.1 d e1 k) k
theorem xl_ifnonnull {a : Nat} (d : xl_J M pc (fun o => .ifnonnull o) pc2 tgt) (k : xl_W M rc rs tgt L st h Po) : xl_W M rc rs pc L (.ref a :: st) h Po := by
  obtain ⟨off, d, e1, -⟩ := d
  exact xl_go (fun hX k => lv_ifnonnull hX.1 hX.2.1 d e1 k) k
theorem xl_ifnull {a : Nat} (d : xl_J M pc (fun o => .ifnull o) pc2 tgt) (k : xl_W M rc rs pc2 L st h Po) : xl_W M rc rs pc L (.ref a :: st) h Po := by
  obtain ⟨off, d, e1, rfl⟩ := d
  exact xl_go (fun hX k => lv_ifnull hX.1 hX.2.1 d k) k
/-- a branch that is decided from what is known -/
theorem xl_if {P : Prop} {st2 : List Value} {t f : Nat} (g : ∀ {p : Program} {l : Launch} {e : Env} {R : Room} {s : State} {m : MethodId} {args : Array Value} {below : List Frame} {meth : Method} {c : Code} {H : Heap} {locs : List Loc} {cells slots : Nat} {Q : State → Prop} {ls : Array Slot} {ρ σ : Nat → Nat}, xl_X M l p R s m args meth c → (P → W p l e R s m args below meth c H locs cells slots Q (F0 m t ls (st2.map (xl_v ρ σ)))) → (¬ P → W p l e R s m args below meth c H locs cells slots Q (F0 m f ls (st2.map (xl_v ρ σ)))) → W p l e R s m args below meth c H locs cells slots Q (F0 m pc ls (st.map (xl_v ρ σ))))
    (kt : P → xl_W M rc rs t L st2 h Po) (kf : ¬ P → xl_W M rc rs f L st2 h Po) : xl_W M rc rs pc L st h Po := by
  intro p l e R s m args below meth c D aC ρ σ aV A H locs cells slots ls Q hX hH hL h1 h2 hr ht
  exact g hX (fun q => kt q p l e R s m args below meth c D aC ρ σ aV A H locs cells slots ls Q hX hH hL h1 h2 hr ht) (fun q => kf q p l e R s m args below meth c D aC ρ σ aV A H locs cells slots ls Q hX hH hL h1 h2 hr ht)
theorem xl_if_eq {a : Int32} (d : xl_J M pc (fun o => .ifCond .eq o) pc2 tgt) (kt : a = 0 → xl_W M rc rs tgt L st h Po) (kf : ¬ (a = 0) → xl_W M rc rs pc2 L st h Po) : xl_W M rc rs pc L (.int a :: st) h Po := by
  obtain ⟨off, d, e1, rfl⟩ := d
  exact xl_if (fun hX k1 k2 => lv_if_eq hX.1 hX.2.1 d e1 k1 k2) kt kf
theorem xl_icmp_eq {a b : Int32} (d : xl_J M pc (fun o => .if_icmp .eq o) pc2 tgt) (kt : a = b → xl_W M rc rs tgt L st h Po) (kf : ¬ (a = b) → xl_W M rc rs pc2 L st h Po) : xl_W M rc rs pc L (.int b :: .int a :: st) h Po := by
  obtain ⟨off, d, e1, rfl⟩ := d
  exact xl_if (fun hX k1 k2 => lv_icmp_eq hX.1 hX.2.1 d e1 k1 k2) kt kf
theorem xl_if_ne {a : Int32} (d : xl_J M pc (fun o => .ifCond .ne o) pc2 tgt) (kt : ¬ a = 0 → xl_W M rc rs tgt L st h Po) (kf : a = 0 → xl_W M rc rs pc2 L st h Po) : xl_W M rc rs pc L (.int a :: st) h Po := by
  obtain ⟨off, d, e1, rfl⟩ := d
  exact xl_if (P := ¬ a = 0) (fun hX k1 k2 => lv_if_ne hX.1 hX.2.1 d e1 k1 (fun q => k2 (fun z => z q))) kt (fun q => kf (Classical.not_not.mp q))
theorem xl_icmp_ne {a b : Int32} (d : xl_J M pc (fun o => .if_icmp .ne o) pc2 tgt) (kt : ¬ a = b → xl_W M rc rs tgt L st h Po) (kf : a = b → xl_W M rc rs pc2 L st h Po) : xl_W M rc rs pc L (.int b :: .int a :: st) h Po := by
  obtain ⟨off, d, e1, rfl⟩ := d
  exact xl_if (P := ¬ a = b) (fun hX k1 k2 => lv_icmp_ne hX.1 hX.2.1 d e1 k1 (fun q => k2 (fun z => z q))) kt (fun q => kf (Classical.not_not.mp q))
theorem xl_if_lt {a : Int32} (d : xl_J M pc (fun o => .ifCond .lt o) pc2 tgt) (kt : a < 0 → xl_W M rc rs tgt L st h Po) (kf : ¬ (a < 0) → xl_W M rc rs pc2 L st h Po) : xl_W M rc rs pc L (.int a :: st) h Po := by
  obtain ⟨off, d, e1, rfl⟩ := d
  exact xl_if (fun hX k1 k2 => lv_if_lt hX.1 hX.2.1 d e1 k1 k2) kt kf
theorem xl_icmp_lt {a b : Int32} (d : xl_J M pc (fun o => .if_icmp .lt o) pc2 tgt) (kt : a < b → xl_W M rc rs tgt L st h Po) (kf : ¬ (a < b) → xl_W M rc rs pc2 L st h Po) : xl_W M rc rs pc L (.int b :: .int a :: st) h Po := by
  obtain ⟨off, d, e1, rfl⟩ := d
  exact xl_if (fun hX k1 k2 => lv_icmp_lt hX.1 hX.2.1 d e1 k1 k2) kt kf
theorem xl_if_ge {a : Int32} (d : xl_J M pc (fun o => .ifCond .ge o) pc2 tgt) (kt : 0 ≤ a → xl_W M rc rs tgt L st h Po) (kf : ¬ (0 ≤ a) → xl_W M rc rs pc2 L st h Po) : xl_W M rc rs pc L (.int a :: st) h Po := by
  obtain ⟨off, d, e1, rfl⟩ := d
  exact xl_if (fun hX k1 k2 => lv_if_ge hX.1 hX.2.1 d e1 k1 k2) kt kf
theorem xl_icmp_ge {a b : Int32} (d : xl_J M pc (fun o => .if_icmp .ge o) pc2 tgt) (kt : b ≤ a → xl_W M rc rs tgt L st h Po) (kf : ¬ (b ≤ a) → xl_W M rc rs pc2 L st h Po) : xl_W M rc rs pc L (.int b :: .int a :: st) h Po := by
  obtain ⟨off, d, e1, rfl⟩ := d
  exact xl_if (fun hX k1 k2 => lv_icmp_ge hX.1 hX.2.1 d e1 k1 k2) kt kf
theorem xl_if_gt {a : Int32} (d : xl_J M pc (fun o => .ifCond .gt o) pc2 tgt) (kt : 0 < a → xl_W M rc rs tgt L st h Po) (kf : ¬ (0 < a) → xl_W M rc rs pc2 L st h Po) : xl_W M rc rs pc L (.int a :: st) h Po := by
  obtain ⟨off, d, e1, rfl⟩ := d
  exact xl_if (fun hX k1 k2 => lv_if_gt hX.1 hX.2.1 d e1 k1 k2) kt kf
theorem xl_icmp_gt {a b : Int32} (d : xl_J M pc (fun o => .if_icmp .gt o) pc2 tgt) (kt : b < a → xl_W M rc rs tgt L st h Po) (kf : ¬ (b < a) → xl_W M rc rs pc2 L st h Po) : xl_W M rc rs pc L (.int b :: .int a :: st) h Po := by
  obtain ⟨off, d, e1, rfl⟩ := d
  exact xl_if (fun hX k1 k2 => lv_icmp_gt hX.1 hX.2.1 d e1 k1 k2) kt kf
theorem xl_if_le {a : Int32} (d : xl_J M pc (fun o => .ifCond .le o) pc2 tgt) (kt : a ≤ 0 → xl_W M rc rs tgt L st h Po) (kf : ¬ (a ≤ 0) → xl_W M rc rs pc2 L st h Po) : xl_W M rc rs pc L (.int a :: st) h Po := by
  obtain ⟨off, d, e1, rfl⟩ := d
  exact xl_if (fun hX k1 k2 => lv_if_le hX.1 hX.2.1 d e1 k1 k2) kt kf
theorem xl_icmp_le {a b : Int32} (d : xl_J M pc (fun o => .if_icmp .le o) pc2 tgt) (kt : a ≤ b → xl_W M rc rs tgt L st h Po) (kf : ¬ (a ≤ b) → xl_W M rc rs pc2 L st h Po) : xl_W M rc rs pc L (.int b :: .int a :: st) h Po := by
  obtain ⟨off, d, e1, rfl⟩ := d
  exact xl_if (fun hX k1 k2 => lv_icmp_le hX.1 hX.2.1 d e1 k1 k2) kt kf
/-- loads: by the place -/
theorem xl_gl {v : Value} {i : Nat} (hl : xl_n L i = some (some v)) (f : ∀ {p : Program} {l : Launch} {e : Env} {R : Room} {s : State} {m : MethodId} {args : Array Value} {below : List Frame} {meth : Method} {c : Code} {H : Heap} {locs : List Loc} {cells slots : Nat} {Q : State → Prop} {ls : Array Slot} {ρ σ : Nat → Nat}, xl_X M l p R s m args meth c → ls[i]? = some (.val (xl_v ρ σ v)) → W p l e R s m args below meth c H locs cells slots Q (F0 m pc2 ls (st2.map (xl_v ρ σ))) → W p l e R s m args below meth c H locs cells slots Q (F0 m pc ls (st.map (xl_v ρ σ))))
    (k : xl_W M rc rs pc2 L st2 h Po) : xl_W M rc rs pc L st h Po := by
  intro p l e R s m args below meth c D aC ρ σ aV A H locs cells slots ls Q hX hH hL h1 h2 hr ht
  exact f hX (hL.2.2 i v hl) (k p l e R s m args below meth c D aC ρ σ aV A H locs cells slots ls Q hX hH hL h1 h2 hr ht)
theorem xl_iload {i : Nat} {a : Int32} (d : xl_D M pc (.iload i) 2 pc2) (hl : xl_n L i = some (some (.int a))) (k : xl_W M rc rs pc2 L (.int a :: st) h Po) : xl_W M rc rs pc L st h Po := by
  obtain ⟨d, rfl⟩ := d
  exact xl_gl hl (fun hX hl k => lv_iload hX.1 hX.2.1 d hl k) k
theorem xl_iload_n {i : Fin 4} {a : Int32} (d : xl_D M pc (.iload_n i) 1 pc2) (hl : xl_n L i.val = some (some (.int a))) (k : xl_W M rc rs pc2 L (.int a :: st) h Po) : xl_W M rc rs pc L st h Po := by
  obtain ⟨d, rfl⟩ := d
  exact xl_gl hl (fun hX hl k => lv_iload_n hX.1 hX.2.1 d rfl hl k) k
theorem xl_lload {i : Nat} {a : Int64} (d : xl_D M pc (.lload i) 2 pc2) (hl : xl_n L i = some (some (.long a))) (k : xl_W M rc rs pc2 L (.long a :: st) h Po) : xl_W M rc rs pc L st h Po := by
  obtain ⟨d, rfl⟩ := d
  exact xl_gl hl (fun hX hl k => lv_lload hX.1 hX.2.1 d hl k) k
theorem xl_lload_n {i : Fin 4} {a : Int64} (d : xl_D M pc (.lload_n i) 1 pc2) (hl : xl_n L i.val = some (some (.long a))) (k : xl_W M rc rs pc2 L (.long a :: st) h Po) : xl_W M rc rs pc L st h Po := by
  obtain ⟨d, rfl⟩ := d
  exact xl_gl hl (fun hX hl k => lv_lload_n hX.1 hX.2.1 d rfl hl k) k
theorem xl_aload {i : Nat} {a : Nat} (d : xl_D M pc (.aload i) 2 pc2) (hl : xl_n L i = some (some (.ref a))) (k : xl_W M rc rs pc2 L (.ref a :: st) h Po) : xl_W M rc rs pc L st h Po := by
  obtain ⟨d, rfl⟩ := d
  exact xl_gl hl (fun hX hl k => lv_aload hX.1 hX.2.1 d hl k) k
theorem xl_aload_n {i : Fin 4} {a : Nat} (d : xl_D M pc (.aload_n i) 1 pc2) (hl : xl_n L i.val = some (some (.ref a))) (k : xl_W M rc rs pc2 L (.ref a :: st) h Po) : xl_W M rc rs pc L st h Po := by
  obtain ⟨d, rfl⟩ := d
  exact xl_gl hl (fun hX hl k => lv_aload_n hX.1 hX.2.1 d rfl hl k) k
theorem xl_saload {i : Nat} {a : UInt32} (d : xl_D M pc (.aload i) 2 pc2) (hl : xl_n L i = some (some (.float a))) (k : xl_W M rc rs pc2 L (.float a :: st) h Po) : xl_W M rc rs pc L st h Po := by
  obtain ⟨d, rfl⟩ := d
  exact xl_gl hl (fun hX hl k => lv_aload hX.1 hX.2.1 d hl k) k
theorem xl_saload_n {i : Fin 4} {a : UInt32} (d : xl_D M pc (.aload_n i) 1 pc2) (hl : xl_n L i.val = some (some (.float a))) (k : xl_W M rc rs pc2 L (.float a :: st) h Po) : xl_W M rc rs pc L st h Po := by
  obtain ⟨d, rfl⟩ := d
  exact xl_gl hl (fun hX hl k => lv_aload_n hX.1 hX.2.1 d rfl hl k) k
/-- the places of a list of locals, as the kit's rows have them -/
def xl_p (ρ σ : Nat → Nat) (L : List (Option Value)) : List (Nat × Value) := (List.range L.length).filterMap (fun i => match xl_n L i with
  | some (some v) => some (i, xl_v ρ σ v)
  | _ => none)
theorem xl_p_mem {ρ σ : Nat → Nat} {L : List (Option Value)} {i : Nat} {w : Value} : (i, w) ∈ xl_p ρ σ L ↔ ∃ v, xl_n L i = some (some v) ∧ w = xl_v ρ σ v := by
  unfold xl_p
  rw [List.mem_filterMap]
  constructor
  · rintro ⟨j, -, hj⟩
    split at hj
    · next v hv => cases hj; exact ⟨v, hv, rfl⟩
    · cases hj
  · rintro ⟨v, hv, rfl⟩
    refine ⟨i, ?_, by rw [hv]⟩
    rw [List.mem_range]
    rw [xl_n_eq] at hv
    exact (List.getElem?_eq_some_iff.mp hv).1
theorem xl_L.has {ρ σ : Nat → Nat} {n : Nat} {ls : Array Slot} (hL : xl_L ρ σ n ls L) : lv_has ls n (xl_p ρ σ L) :=
  ⟨hL.1, hL.2.1, fun q hq => by
    obtain ⟨v, e1, e2⟩ := xl_p_mem.mp (show (q.1, q.2) ∈ xl_p ρ σ L from hq)
    rw [e2]
    exact hL.2.2 _ _ e1⟩
theorem xl_n_s {α : Type} : ∀ {l : List α} {k j : Nat} {b c : α}, xl_n (xl_s l k b) j = some c → (j = k ∧ c = b) ∨ (j ≠ k ∧ xl_n l j = some c)
  | [], k, j, b, c, e => by simp [xl_s, xl_n] at e
  | a :: l, 0, 0, b, c, e => Or.inl ⟨rfl, by simpa [xl_s, xl_n] using e.symm⟩
  | a :: l, 0, j + 1, b, c, e => Or.inr ⟨by omega, by simpa [xl_s, xl_n] using e⟩
  | a :: l, k + 1, 0, b, c, e => Or.inr ⟨by omega, by simpa [xl_s, xl_n] using e⟩
  | a :: l, k + 1, j + 1, b, c, e => by
    rcases xl_n_s (l := l) (k := k) (j := j) (b := b) (c := c) (by simpa [xl_s, xl_n] using e) with ⟨e1, e2⟩ | ⟨e1, e2⟩
    · exact Or.inl ⟨by omega, e2⟩
    · exact Or.inr ⟨by omega, by simpa [xl_n] using e2⟩
/-- no value of two words ends at a place -/
def xl_k : List (Option Value) → Nat → Bool
  | [], _ => true
  | _, 0 => true
  | a :: _, 1 => match a with
    | some v => xl_1 v
    | none => true
  | _ :: l, k + 2 => xl_k l (k + 1)
theorem xl_k_of : ∀ {L : List (Option Value)} {k : Nat} {v : Value}, xl_k L (k + 1) = true → xl_n L k = some (some v) → xl_1 v = true
  | [], k, v, h1, h2 => by simp [xl_n] at h2
  | a :: l, 0, v, h1, h2 => by
    simp [xl_n] at h2
    subst h2
    simpa [xl_k] using h1
  | a :: l, k + 1, v, h1, h2 => xl_k_of (L := l) (k := k) (by simpa [xl_k] using h1) (by simpa [xl_n] using h2)
theorem xl_1n {v : Value} {ρ σ : Nat → Nat} (h : xl_1 v = true) : ¬ (xl_v ρ σ v).category = 2 := by rw [xl_1c h]; decide
theorem xl_L.put {ρ σ : Nat → Nat} {n i : Nat} {ls : Array Slot} {v : Value} (hk : xl_k L i = true) (h1 : lv_has ls n ((i, xl_v ρ σ v) :: (xl_p ρ σ L).filter (fun q => !(q.1 == i) && !(q.1 + 1 == i && q.2.category == 2)))) : xl_L ρ σ n ls (xl_s L i (some v)) := by
  refine ⟨h1.1, h1.2.1, fun j w hw => ?_⟩
  rcases xl_n_s hw with ⟨rfl, e2⟩ | ⟨e1, e2⟩
  · cases e2
    exact h1.2.2 (_, xl_v ρ σ v) List.mem_cons_self
  · refine h1.2.2 (j, xl_v ρ σ w) (List.mem_cons_of_mem _ (List.mem_filter.mpr ⟨xl_p_mem.mpr ⟨w, e2, rfl⟩, ?_⟩))
    simp only [Bool.and_eq_true, Bool.not_eq_true', beq_eq_false_iff_ne, Bool.and_eq_false_iff, ne_eq]
    refine ⟨e1, ?_⟩
    by_cases hj : j + 1 = i
    · subst hj
      exact Or.inr (xl_1n (xl_k_of hk e2))
    · exact Or.inl hj
theorem xl_gs {v : Value} {i : Nat} (hk : xl_k L i = true) (hn : i < M.2.2.1) (f : ∀ {p : Program} {l : Launch} {e : Env} {R : Room} {s : State} {m : MethodId} {args : Array Value} {below : List Frame} {meth : Method} {c : Code} {H : Heap} {locs : List Loc} {cells slots : Nat} {Q : State → Prop} {ls : Array Slot} {ρ σ : Nat → Nat} {lv : List (Nat × Value)}, xl_X M l p R s m args meth c → lv_has ls M.2.2.1 lv → (∀ ls' : Array Slot, lv_has ls' M.2.2.1 ((i, xl_v ρ σ v) :: lv.filter (fun q => !(q.1 == i) && !(q.1 + 1 == i && q.2.category == 2))) → W p l e R s m args below meth c H locs cells slots Q (F0 m pc2 ls' (st2.map (xl_v ρ σ)))) → W p l e R s m args below meth c H locs cells slots Q (F0 m pc ls (st.map (xl_v ρ σ))))
    (k : xl_W M rc rs pc2 (xl_s L i (some v)) st2 h Po) : xl_W M rc rs pc L st h Po := by
  intro p l e R s m args below meth c D aC ρ σ aV A H locs cells slots ls Q hX hH hL h1 h2 hr ht
  exact f hX hL.has (fun ls' hl => k p l e R s m args below meth c D aC ρ σ aV A H locs cells slots ls' Q hX hH (xl_L.put hk hl) h1 h2 hr ht)
theorem xl_istore {i : Nat} {a : Int32} (d : xl_D M pc (.istore i) 2 pc2) (hk : xl_k L i = true) (hn : i < M.2.2.1) (k : xl_W M rc rs pc2 (xl_s L i (some (.int a))) st h Po) : xl_W M rc rs pc L (.int a :: st) h Po := by
  obtain ⟨d, rfl⟩ := d
  exact xl_gs (v := .int a) hk hn (fun hX hl k => lv_istore hX.1 hX.2.1 d hl hn rfl k) k
theorem xl_istore_n {i : Fin 4} {a : Int32} (d : xl_D M pc (.istore_n i) 1 pc2) (hk : xl_k L i.val = true) (hn : i.val < M.2.2.1) (k : xl_W M rc rs pc2 (xl_s L i.val (some (.int a))) st h Po) : xl_W M rc rs pc L (.int a :: st) h Po := by
  obtain ⟨d, rfl⟩ := d
  exact xl_gs (v := .int a) hk hn (fun hX hl k => lv_istore_n hX.1 hX.2.1 d rfl hl hn rfl k) k
theorem xl_astore {i : Nat} {a : Nat} (d : xl_D M pc (.astore i) 2 pc2) (hk : xl_k L i = true) (hn : i < M.2.2.1) (k : xl_W M rc rs pc2 (xl_s L i (some (.ref a))) st h Po) : xl_W M rc rs pc L (.ref a :: st) h Po := by
  obtain ⟨d, rfl⟩ := d
  exact xl_gs (v := .ref a) hk hn (fun hX hl k => lv_astore hX.1 hX.2.1 d hl hn rfl k) k
theorem xl_astore_n {i : Fin 4} {a : Nat} (d : xl_D M pc (.astore_n i) 1 pc2) (hk : xl_k L i.val = true) (hn : i.val < M.2.2.1) (k : xl_W M rc rs pc2 (xl_s L i.val (some (.ref a))) st h Po) : xl_W M rc rs pc L (.ref a :: st) h Po := by
  obtain ⟨d, rfl⟩ := d
  exact xl_gs (v := .ref a) hk hn (fun hX hl k => lv_astore_n hX.1 hX.2.1 d rfl hl hn rfl k) k
theorem xl_sastore {i : Nat} {a : UInt32} (d : xl_D M pc (.astore i) 2 pc2) (hk : xl_k L i = true) (hn : i < M.2.2.1) (k : xl_W M rc rs pc2 (xl_s L i (some (.float a))) st h Po) : xl_W M rc rs pc L (.float a :: st) h Po := by
  obtain ⟨d, rfl⟩ := d
  exact xl_gs (v := .float a) hk hn (fun hX hl k => lv_astore hX.1 hX.2.1 d hl hn rfl k) k
theorem xl_sastore_n {i : Fin 4} {a : UInt32} (d : xl_D M pc (.astore_n i) 1 pc2) (hk : xl_k L i.val = true) (hn : i.val < M.2.2.1) (k : xl_W M rc rs pc2 (xl_s L i.val (some (.float a))) st h Po) : xl_W M rc rs pc L (.float a :: st) h Po := by
  obtain ⟨d, rfl⟩ := d
  exact xl_gs (v := .float a) hk hn (fun hX hl k => lv_astore_n hX.1 hX.2.1 d rfl hl hn rfl k) k
theorem xl_iinc {i : Nat} {n : Int} {a : Int32} (d : xl_D M pc (.iinc i n) 3 pc2) (hl : xl_n L i = some (some (.int a))) (hk : xl_k L i = true) (hn : i < M.2.2.1) (k : xl_W M rc rs pc2 (xl_s L i (some (.int (a + Int32.ofInt n)))) st h Po) : xl_W M rc rs pc L st h Po := by
  obtain ⟨d, rfl⟩ := d
  intro p l e R s m args below meth c D aC ρ σ aV A H locs cells slots ls Q hX hH hL h1 h2 hr ht
  obtain ⟨q, hq⟩ := List.getElem?_of_mem (xl_p_mem.mpr ⟨_, hl, rfl⟩ : (i, xl_v ρ σ (.int a)) ∈ xl_p ρ σ L)
  exact lv_iinc hX.1 hX.2.1 d hL.has hq rfl hn rfl (fun ls' hl => k p l e R s m args below meth c D aC ρ σ aV A H locs cells slots ls' Q hX hH (xl_L.put (v := .int (a + Int32.ofInt n)) hk hl) h1 h2 hr ht)
/-- a method's end -/
theorem xl_ret {v : Option Value} (hP : Po (some v) h) (d : xl_R M pc v) : xl_W M rc rs pc L v.toList h Po := by
  intro p l e R s m args below meth c D aC ρ σ aV A H locs cells slots ls Q hX hH hL h1 h2 hr ht
  exact hr v h H locs pc cells slots ls hP hH d (by omega) (by omega)
theorem xl_thr (hP : Po none h) (d : xl_Y M pc) : xl_W M (rc + 1) (rs + 6) pc L [] h Po := by
  intro p l e R s m args below meth c D aC ρ σ aV A H locs cells slots ls Q hX hH hL h1 h2 hr ht
  exact ht h H locs pc cells slots ls hP hH d (by omega) (by omega) hL.1
theorem xl_ireturn {a : Int32} (d : xl_D M pc .ireturn 1 pc2) (hr : M.2.2.2.1 = some .int) (hP : Po (some (some (.int a))) h) : xl_W M rc rs pc L [.int a] h Po :=
  xl_ret (v := some (.int a)) hP ⟨⟨.int, hr, rfl⟩, d.1⟩
theorem xl_zreturn {a : Int32} (d : xl_D M pc .ireturn 1 pc2) (hr : M.2.2.2.1 = some .boolean) (h01 : a = 0 ∨ a = 1) (hP : Po (some (some (.int a))) h) : xl_W M rc rs pc L [.int a] h Po :=
  xl_ret (v := some (.int a)) hP ⟨⟨.boolean, hr, by rcases h01 with rfl | rfl <;> decide⟩, d.1⟩
theorem xl_lreturn {a : Int64} (d : xl_D M pc .lreturn 1 pc2) (hr : M.2.2.2.1 = some .long) (hP : Po (some (some (.long a))) h) : xl_W M rc rs pc L [.long a] h Po :=
  xl_ret (v := some (.long a)) hP ⟨hr, d.1⟩
theorem xl_sreturn {a : UInt32} {n : String} (d : xl_D M pc .areturn 1 pc2) (hr : M.2.2.2.1 = some (.object n)) (hP : Po (some (some (.float a))) h) : xl_W M rc rs pc L [.float a] h Po :=
  xl_ret (v := some (.float a)) hP ⟨⟨n, hr⟩, d.1⟩
theorem xl_return (d : xl_D M pc .return_ 1 pc2) (hr : M.2.2.2.1 = none) (hP : Po (some none) h) : xl_W M rc rs pc L [] h Po :=
  xl_ret (v := none) hP ⟨hr, d.1⟩
/-- fields: class number, field number -/
def xl_F (own : String) (i ci k : Nat) : Prop := ∃ (C : String) (T : u_T) (N : Nat), vwCl[ci]? = some (C, T, N) ∧ k < N ∧ (∀ w ∈ u_ws C T N, w ∈ xl_T) ∧ Cond.fieldLink own i (T k).1 (T k).2.1 (T k).2.2.1 ∈ xl_T
def xl_Fp (own : String) (i ci k : Nat) (ty : FieldType) : Prop := ∃ (C : String) (T : u_T) (N : Nat) (ty0 : Nat → FieldType), vwCl[ci]? = some (C, T, N) ∧ k < N ∧ (∀ w ∈ u_ws C T N, w ∈ xl_T) ∧ Cond.fieldLink own i (T k).1 (T k).2.1 (T k).2.2.1 ∈ xl_T ∧ (∀ k, k < N → parseFieldDescriptor (T k).2.2.1 = some (ty0 k)) ∧ (∀ a, a < N → ∀ b, b < N → a ≠ b → (T a).2.1 ≠ (T b).2.1) ∧ (T k).2.2.2 = false ∧ parseFieldDescriptor (T k).2.2.1 = some ty
def xl_G (M : XI) (pc ci k pc2 : Nat) : Prop := ∃ i, decode M.2.1 pc = .ok (.getfield i, 3) ∧ pc + 3 = pc2 ∧ xl_F M.1.cls i ci k
def xl_P (M : XI) (pc ci k : Nat) (ty : FieldType) (pc2 : Nat) : Prop := ∃ i, decode M.2.1 pc = .ok (.putfield i, 3) ∧ pc + 3 = pc2 ∧ xl_Fp M.1.cls i ci k ty
/-- a value out of a cell at a place -/
def xl_o (r : Nat) : Value → Value := fun v => match v with
  | .ref d => .ref (r + d)
  | .int a => .int a
  | .long a => .long a
  | .float a => .float a
  | .double a => .double a
  | .null => .null
  | .retAddr a => .retAddr a
theorem xl_o_v {ρ σ : Nat → Nat} {r : Nat} {v : Value} : xl_v ρ σ (xl_o r v) = xl_v (fun d => ρ (r + d)) σ v := by cases v <;> rfl
theorem xl_get {ci k r : Nat} {fs : List Value} {v : Value} (d : xl_G M pc ci k pc2) (hh : xl_n h r = some (.inr (ci, fs))) (hf : xl_n fs k = some v) (kk : xl_W M rc rs pc2 L (xl_o r v :: st) h Po) : xl_W M rc rs pc L (.ref r :: st) h Po := by
  obtain ⟨i, d, rfl, C, T, N, e1, e2, e3, e4⟩ := d
  intro p l e R s m args below meth c D aC ρ σ aV A H locs cells slots ls Q hX hH hL h1 h2 hr ht
  obtain ⟨hK, hP, hD, hS, hE, hA⟩ := id hH
  rw [xl_n_eq] at hh hf
  have hv : (fs.map (xl_v (fun d => ρ (r + d)) σ))[k]? = some (xl_v (fun d => ρ (r + d)) σ v) := by rw [List.getElem?_map, hf]; rfl
  refine va_get hX.1 hX.2.1 hX.2.2.2.2.2.1 e3 hX.2.2.2.2.1 hK hP r (xl_w_of hh) e1 k e2 (hX.2.2.2.2.2.1 _ e4) (fun _ h9 => h9) hv d ?_
  rw [← xl_o_v]
  exact kk p l e R s m args below meth c D aC ρ σ aV A H locs cells slots ls Q hX hH hL h1 h2 hr ht
theorem xl_put {ci k r : Nat} {fs : List Value} {a : Int32} (d : xl_P M pc ci k .int pc2) (hh : xl_n h r = some (.inr (ci, fs))) (hf : k < fs.length) (kk : xl_W M rc rs pc2 L st (xl_s h r (.inr (ci, xl_s fs k (.int a)))) Po) : xl_W M rc rs pc L (.int a :: .ref r :: st) h Po := by
  obtain ⟨i, d, rfl, C, T, N, ty0, e1, e2, e3, e4, e5, e6, e7, e8⟩ := d
  intro p l e R s m args below meth c D aC ρ σ aV A H locs cells slots ls Q hX hH hL h1 h2 hr ht
  obtain ⟨hK, hP, hD, hS, hE, hA⟩ := id hH
  rw [xl_n_eq] at hh
  refine va_put hX.1 hX.2.1 hX.2.2.2.2.2.1 e3 ty0 e5 e6 hX.2.2.2.2.1 hK hP hD hS r (xl_w_of hh) e1 k e2 (hX.2.2.2.2.2.1 _ e4) (fun _ h9 => h9) e7 e8 (v := .int a) rfl rfl (by rw [List.length_map]; exact hf) d (fun H1 locs1 hP1 hD1 hS1 => ?_)
  have ew : (xl_w aC ρ σ h).set r (ρ r, Sum.inr (ci, (fs.map (xl_v (fun d => ρ (r + d)) σ)).set k (.int a))) = xl_w aC ρ σ (xl_s h r (.inr (ci, xl_s fs k (.int a)))) := by
    rw [xl_s_eq, xl_s_eq, ← xl_w_set]
    show _ = (xl_w aC ρ σ h).set r (ρ r, Sum.inr (ci, (fs.set k (.int a)).map (xl_v (fun d => ρ (r + d)) σ)))
    rw [List.map_set]
    rfl
  rw [ew] at hP1 hD1
  exact kk p l e R s m args below meth c D aC ρ σ aV A H1 locs1 cells slots ls Q hX ⟨hK, hP1, hD1, hS1, hE, hA⟩ hL h1 h2 hr ht
/-- arrays -/
theorem xl_iald {r n : Nat} {f : Nat → Int32} {i : Int32} (d : xl_D M pc .iaload 1 pc2) (hh : xl_n h r = some (.inl (0, n, .inl f))) (hin : vp_in i n) (kk : xl_W M rc rs pc2 L (.int (f i.toNatClampNeg) :: st) h Po) : xl_W M rc rs pc L (.int i :: .ref r :: st) h Po := by
  obtain ⟨d, rfl⟩ := d
  intro p l e R s m args below meth c D aC ρ σ aV A H locs cells slots ls Q hX hH hL h1 h2 hr ht
  obtain ⟨hK, hP, hD, hS, hE, hA⟩ := id hH
  rw [xl_n_eq] at hh
  exact va_iald hX.1 hX.2.1 hK hP r 0 (xl_w_of hh) rfl hin d (kk p l e R s m args below meth c D aC ρ σ aV A H locs cells slots ls Q hX hH hL h1 h2 hr ht)
theorem xl_lald {r n : Nat} {f : Nat → Int64} {i : Int32} (d : xl_D M pc .laload 1 pc2) (hh : xl_n h r = some (.inl (1, n, .inr (.inl f)))) (hin : vp_in i n) (kk : xl_W M rc rs pc2 L (.long (f i.toNatClampNeg) :: st) h Po) : xl_W M rc rs pc L (.int i :: .ref r :: st) h Po := by
  obtain ⟨d, rfl⟩ := d
  intro p l e R s m args below meth c D aC ρ σ aV A H locs cells slots ls Q hX hH hL h1 h2 hr ht
  obtain ⟨hK, hP, hD, hS, hE, hA⟩ := id hH
  rw [xl_n_eq] at hh
  exact va_lald hX.1 hX.2.1 hK hP r 1 (xl_w_of hh) rfl hin d (kk p l e R s m args below meth c D aC ρ σ aV A H locs cells slots ls Q hX hH hL h1 h2 hr ht)
theorem xl_zald {r n : Nat} {f : Nat → Int32} {i : Int32} (d : xl_D M pc .baload 1 pc2) (hh : xl_n h r = some (.inl (2, n, .inl f))) (hin : vp_in i n) (kk : xl_W M rc rs pc2 L (.int (f i.toNatClampNeg) :: st) h Po) : xl_W M rc rs pc L (.int i :: .ref r :: st) h Po := by
  obtain ⟨d, rfl⟩ := d
  intro p l e R s m args below meth c D aC ρ σ aV A H locs cells slots ls Q hX hH hL h1 h2 hr ht
  obtain ⟨hK, hP, hD, hS, hE, hA⟩ := id hH
  rw [xl_n_eq] at hh
  exact va_zald hX.1 hX.2.1 hK hP r 2 (xl_w_of hh) rfl hin d (kk p l e R s m args below meth c D aC ρ σ aV A H locs cells slots ls Q hX hH hL h1 h2 hr ht)
theorem xl_aald {r n q : Nat} {f : Nat → Option Nat} {i : Int32} (d : xl_D M pc .aaload 1 pc2) (hh : xl_n h r = some (.inl (3, n, .inr (.inr (.inr (.inr f)))))) (hin : vp_in i n) (hq : f i.toNatClampNeg = some q) (kk : xl_W M rc rs pc2 L (.ref (r + q) :: st) h Po) : xl_W M rc rs pc L (.int i :: .ref r :: st) h Po := by
  obtain ⟨d, rfl⟩ := d
  intro p l e R s m args below meth c D aC ρ σ aV A H locs cells slots ls Q hX hH hL h1 h2 hr ht
  obtain ⟨hK, hP, hD, hS, hE, hA⟩ := id hH
  rw [xl_n_eq] at hh
  refine va_aldq hX.1 hX.2.1 hK hP r 3 (xl_w_of hh) rfl hin d ?_
  rw [show va_rf ((f i.toNatClampNeg).map (fun d => ρ (r + d))) = .ref (ρ (r + q)) by rw [hq]; rfl]
  exact kk p l e R s m args below meth c D aC ρ σ aV A H locs cells slots ls Q hX hH hL h1 h2 hr ht
theorem xl_alen {r n : Nat} {t : Nat} {a : (Nat → Int32) ⊕ (Nat → Int64) ⊕ (Nat → UInt32) ⊕ (Nat → UInt64) ⊕ (Nat → Option Nat)} (d : xl_D M pc .arraylength 1 pc2) (hh : xl_n h r = some (.inl (t, n, a))) (ht4 : t < 4) (kk : xl_W M rc rs pc2 L (.int (nI n) :: st) h Po) : xl_W M rc rs pc L (.ref r :: st) h Po := by
  obtain ⟨d, rfl⟩ := d
  intro p l e R s m args below meth c D aC ρ σ aV A H locs cells slots ls Q hX hH hL h1 h2 hr ht
  obtain ⟨hK, hP, hD, hS, hE, hA⟩ := id hH
  rw [xl_n_eq] at hh
  have kk := kk p l e R s m args below meth c D aC ρ σ aV A H locs cells slots ls Q hX hH hL h1 h2 hr ht
  match t, ht4, hh with
  | 0, _, hh => exact va_alen hX.1 hX.2.1 hK hP r 0 (xl_w_of hh) rfl rfl d kk
  | 1, _, hh => exact va_alen hX.1 hX.2.1 hK hP r 1 (xl_w_of hh) rfl rfl d kk
  | 2, _, hh => exact va_alen hX.1 hX.2.1 hK hP r 2 (xl_w_of hh) rfl rfl d kk
  | 3, _, hh => exact va_alen hX.1 hX.2.1 hK hP r 3 (xl_w_of hh) rfl rfl d kk
theorem xl_iast {r n : Nat} {f : Nat → Int32} {i a : Int32} (d : xl_D M pc .iastore 1 pc2) (hh : xl_n h r = some (.inl (0, n, .inl f))) (hin : vp_in i n) (kk : xl_W M rc rs pc2 L st (xl_s h r (.inl (0, n, .inl (upd f i.toNatClampNeg a)))) Po) : xl_W M rc rs pc L (.int a :: .int i :: .ref r :: st) h Po := by
  obtain ⟨d, rfl⟩ := d
  intro p l e R s m args below meth c D aC ρ σ aV A H locs cells slots ls Q hX hH hL h1 h2 hr ht
  obtain ⟨hK, hP, hD, hS, hE, hA⟩ := id hH
  rw [xl_n_eq] at hh
  refine va_iast hX.1 hX.2.1 hK hP hD hS r 0 (xl_w_of hh) rfl hin d (fun H1 locs1 hP1 hD1 hS1 => ?_)
  exact kk p l e R s m args below meth c D aC ρ σ aV A H1 locs1 cells slots ls Q hX ⟨hK, by rw [xl_w_s]; exact hP1, by rw [xl_w_s]; exact hD1, hS1, hE, hA⟩ hL h1 h2 hr ht
theorem xl_last {r n : Nat} {f : Nat → Int64} {i : Int32} {a : Int64} (d : xl_D M pc .lastore 1 pc2) (hh : xl_n h r = some (.inl (1, n, .inr (.inl f)))) (hin : vp_in i n) (kk : xl_W M rc rs pc2 L st (xl_s h r (.inl (1, n, .inr (.inl (vp_updL f i.toNatClampNeg a))))) Po) : xl_W M rc rs pc L (.long a :: .int i :: .ref r :: st) h Po := by
  obtain ⟨d, rfl⟩ := d
  intro p l e R s m args below meth c D aC ρ σ aV A H locs cells slots ls Q hX hH hL h1 h2 hr ht
  obtain ⟨hK, hP, hD, hS, hE, hA⟩ := id hH
  rw [xl_n_eq] at hh
  refine va_last hX.1 hX.2.1 hK hP hD hS r 1 (xl_w_of hh) rfl hin d (fun H1 locs1 hP1 hD1 hS1 => ?_)
  exact kk p l e R s m args below meth c D aC ρ σ aV A H1 locs1 cells slots ls Q hX ⟨hK, by rw [xl_w_s]; exact hP1, by rw [xl_w_s]; exact hD1, hS1, hE, hA⟩ hL h1 h2 hr ht
theorem xl_zast {r n : Nat} {f : Nat → Int32} {i a : Int32} (d : xl_D M pc .bastore 1 pc2) (hh : xl_n h r = some (.inl (2, n, .inl f))) (hin : vp_in i n) (kk : xl_W M rc rs pc2 L st (xl_s h r (.inl (2, n, .inl (upd f i.toNatClampNeg (vp_nar .boolean a))))) Po) : xl_W M rc rs pc L (.int a :: .int i :: .ref r :: st) h Po := by
  obtain ⟨d, rfl⟩ := d
  intro p l e R s m args below meth c D aC ρ σ aV A H locs cells slots ls Q hX hH hL h1 h2 hr ht
  obtain ⟨hK, hP, hD, hS, hE, hA⟩ := id hH
  rw [xl_n_eq] at hh
  refine va_zast hX.1 hX.2.1 hK hP hD hS r 2 (xl_w_of hh) rfl hin d (fun H1 locs1 hP1 hD1 hS1 => ?_)
  exact kk p l e R s m args below meth c D aC ρ σ aV A H1 locs1 cells slots ls Q hX ⟨hK, by rw [xl_w_s]; exact hP1, by rw [xl_w_s]; exact hD1, hS1, hE, hA⟩ hL h1 h2 hr ht
/-- contracts -/
def xl_ws (μ : XI) : List Cond := .code μ.1 μ.2.1 μ.2.2.1 μ.2.2.2.1 :: xl_T
def xl_rm (μ : XI) (mc ms : Nat) : Room := { frames := μ.2.2.2.2.1, cells := mc, slots := ms, locals := μ.2.2.2.2.2.1 }
def xl_Pc (D : va_G) (aC : Nat → ClassId) (ρ σ aV : Nat → Nat) (sz : Nat) (As : List Value) (h : XH) : Array Value → State → Prop :=
  va_Pc (As.map (xl_v ρ σ)) (fun U => U.heap.size = sz ∧ va_P D vwCl (xl_w aC ρ σ h) U.heap ∧ va_K D vwCl (xl_ty aC) U ∧ va_D (fun _ => True) (xl_w aC ρ σ h) ∧ xl_S σ aV (va_A (xl_w aC ρ σ h) sz) U U.heap)
def xl_Qc (D : va_G) (aC : Nat → ClassId) (ρ σ : Nat → Nat) (A : Nat → Prop) (Po : Option Value → XH → Prop) : Array Value → State → Outcome → State → Prop := fun _ st oc t =>
  (∃ (v : Option Value) (h' : XH), oc = .returned (v.map (xl_v ρ σ)) ∧ Po v h' ∧ va_P D vwCl (xl_w aC ρ σ h') t.heap ∧ va_K D vwCl (xl_ty aC) t ∧ va_D A (xl_w aC ρ σ h')) ∧ va_F A st t
def xl_C (μ : XI) (mc ms : Nat) (As : List Value) (h : XH) (Po : Option Value → XH → Prop) : Prop :=
  ∀ (l : Launch), l.flags = flags0 → ∀ (D : va_G) (aC : Nat → ClassId) (ρ σ aV : Nat → Nat) (sz : Nat), Met l μ.1 (xl_ws μ) (xl_rm μ mc ms) (xl_Pc D aC ρ σ aV sz As h) (xl_Qc D aC ρ σ (va_A (xl_w aC ρ σ h) sz) Po) mc ms (va_A (xl_w aC ρ σ h) sz)
/-- what the tables say of a method -/
def xl_K (μ : XI) : Prop := plainName μ.1.cls = true ∧ Cond.code μ.1 μ.2.1 μ.2.2.1 μ.2.2.2.1 ∈ xl_T ∧ Cond.initialized μ.1.cls ∈ xl_T ∧ μ.1.cls ≠ "java/lang/invoke/MethodHandle" ∧ μ.1.cls ≠ "java/lang/invoke/VarHandle" ∧ (parseMethodDescriptor μ.1.desc).map (fun d => d.parameters.length) = some μ.2.2.2.2.2.2
def xl_V (μ : XI) : Prop := xl_K μ ∧ Cond.instanceMethod μ.1 ∈ xl_T ∧ Cond.selects μ.1.cls μ.1 μ.1 ∈ xl_T
def xl_U (μ : XI) : Prop := xl_K μ ∧ Cond.static μ.1 ∈ xl_T
/-- the locals at the entry -/
def xl_e : List Value → Nat → List (Option Value)
  | [], n => List.replicate n none
  | v :: vs, n => if xl_1 v = true then some v :: xl_e vs (n - 1) else some v :: none :: xl_e vs (n - 2)
def xl_z : List Value → Nat
  | [] => 0
  | v :: vs => (if xl_1 v = true then 1 else 2) + xl_z vs
theorem xl_1d {v : Value} {ρ σ : Nat → Nat} (h : ¬ xl_1 v = true) : (xl_v ρ σ v).category = 2 := by
  cases v <;> first | rfl | exact absurd rfl h
theorem xl_z_eq {ρ σ : Nat → Nat} : ∀ (As : List Value), (lg_sl (As.map (xl_v ρ σ))).length = xl_z As
  | [] => rfl
  | v :: vs => by
    have ih := xl_z_eq (ρ := ρ) (σ := σ) vs
    by_cases hv : xl_1 v = true
    · have hc := xl_1c (ρ := ρ) (σ := σ) hv
      simp only [lg_sl, List.map_cons, List.flatMap_cons, List.length_append] at ih ⊢
      rw [ih]
      simp [xl_z, hv, hc]
    · have hc := xl_1d (ρ := ρ) (σ := σ) hv
      simp only [lg_sl, List.map_cons, List.flatMap_cons, List.length_append] at ih ⊢
      rw [ih]
      simp [xl_z, hv, hc]
theorem xl_e_in {ρ σ : Nat → Nat} : ∀ (As : List Value) (n b i : Nat) (v : Value), xl_n (xl_e As n) i = some (some v) → (b + i, xl_v ρ σ v) ∈ lv_args b (As.map (xl_v ρ σ))
  | [], n, b, i, v, e => by
    rw [xl_n_eq, xl_e, List.getElem?_replicate] at e
    split at e <;> simp at e
  | w :: vs, n, b, i, v, e => by
    by_cases hv : xl_1 w = true
    · have hc := xl_1c (ρ := ρ) (σ := σ) hv
      rw [xl_e, if_pos hv] at e
      simp only [List.map_cons, lv_args]
      cases i with
      | zero =>
        simp [xl_n] at e
        subst e
        exact List.mem_cons_self
      | succ i =>
        have := xl_e_in (ρ := ρ) (σ := σ) vs (n - 1) (b + 1) i v (by simpa [xl_n] using e)
        rw [if_neg (by rw [hc]; decide)]
        refine List.mem_cons_of_mem _ ?_
        rw [show b + (i + 1) = b + 1 + i by omega]
        exact this
    · have hc := xl_1d (ρ := ρ) (σ := σ) hv
      rw [xl_e, if_neg hv] at e
      simp only [List.map_cons, lv_args]
      match i, e with
      | 0, e =>
        simp [xl_n] at e
        subst e
        exact List.mem_cons_self
      | 1, e => simp [xl_n] at e
      | i + 2, e =>
        have := xl_e_in (ρ := ρ) (σ := σ) vs (n - 2) (b + 2) i v (by simpa [xl_n] using e)
        rw [if_pos hc]
        refine List.mem_cons_of_mem _ ?_
        rw [show b + (i + 2) = b + 2 + i by omega]
        exact this
end XL
section XC
variable {μ : XI} {mc ms : Nat} {As : List Value} {h : XH} {Po : Option Value → XH → Prop}
/-- a contract out of the walk of its body -/
theorem xl_con (hk : xl_K μ) (L0 : List (Option Value)) (he : xl_e As μ.2.2.1 = L0) (hz : xl_z As ≤ μ.2.2.1) (hW : xl_W μ mc ms 0 L0 [] h (fun v h' => ∃ w, v = some w ∧ Po w h')) : xl_C μ mc ms As h Po := by
  intro l hl D aC ρ σ aV sz
  refine Met.ofW (cc := μ.2.1) (maxL := μ.2.2.1) (ret := μ.2.2.2.1) hk.1 rfl ?_
  intro p e s m args below meth c s₁ B hml hv
  obtain ⟨rfl, hsz, hP, hK, hD0, hE⟩ := hv
  have hts := atoms_spec (ws := xl_ws μ) B.pre
  have hown : s.vm.findClass μ.1.cls = some m.cls := findClass_of_methodNamed B.named
  have hlocks := B.notSynchronized
  subst hsz
  have hD := hD0.self (sz := s.heap.size)
  generalize hAe : va_A (xl_w aC ρ σ h) s.heap.size = A at hD hE ⊢
  have hA : ∀ q : Nat, s.heap.size ≤ q → A q := fun q h => by rw [← hAe]; exact Or.inr h
  have hS : va_S A s.heap s.heap [] := va_S.rf
  have hl0 := lv_entry (As.map (xl_v ρ σ)) (n := μ.2.2.1) (by rw [xl_z_eq]; exact hz)
  rw [lg_entry_eq]
  refine hW p l e _ s m _ below meth c D aC ρ σ aV A s.heap [] 0 0 _ _ ⟨B.exec, B.bytes, B.returns, hml, hown, fun w hw => hts w (List.mem_cons_of_mem _ hw), hlocks, Nat.le_refl _, Nat.le_refl _, hl⟩ ⟨hK, hP, hD, hS, hE, hA⟩ ⟨hl0.1, hl0.2.1, fun i v hi => ?_⟩ (by show 0 + mc ≤ mc; omega) (by show 0 + ms ≤ ms; omega) ?_ ?_
  · rw [← he] at hi
    have := xl_e_in (ρ := ρ) (σ := σ) As μ.2.2.1 0 i v hi
    rw [Nat.zero_add] at this
    exact hl0.2.2 _ this
  · intro v h' H' locs' pc' cells' slots' ls' hPo hH' hR hc1 hc2
    obtain ⟨w, ew, hPo⟩ := hPo
    cases ew
    obtain ⟨hK', hP', hD', hS', hE', hA'⟩ := hH'
    refine W.widen (k := mc) (n := ms) (by omega) (by omega) ?_
    have fin : ∀ t : State, t.heap = H' → s.WarmedH t.vm → xl_Qc D aC ρ σ A Po (As.map (xl_v ρ σ)).toArray s (.returned (v.map (xl_v ρ σ))) t := fun t ht hW => ⟨⟨v, h', rfl, hPo, by rw [ht]; exact hP', va_K.moved hW.alike hK', hD'⟩, hS'.F ht⟩
    match v, hR, fin with
    | none, hR, fin => exact W.vret B.exec B.bytes (B.returns.trans hR.1) fin hS'.2.2 hR.2 hlocks
    | some (.int a), hR, fin =>
      obtain ⟨⟨ty, e1, e2⟩, e3⟩ := hR
      exact W.zret B.exec B.bytes (B.returns.trans e1) e2 fin hS'.2.2 e3 hlocks
    | some (.long a), hR, fin => exact W.lret B.exec B.bytes (B.returns.trans hR.1) fin hS'.2.2 hR.2 hlocks
    | some (.float a), hR, fin =>
      obtain ⟨⟨n, e1⟩, e3⟩ := hR
      exact W.aret B.exec B.bytes (B.returns.trans e1) (Or.inl ⟨n, rfl⟩) (Or.inr ⟨_, rfl⟩) fin hS'.2.2 e3 hlocks
  · intro h' H' locs' pc' cells' slots' ls' hPo
    obtain ⟨w, ew, -⟩ := hPo
    cases ew
end XC
