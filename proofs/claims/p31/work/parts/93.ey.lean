/-! ===== what throws: facts ===== -/
theorem decode_out {code : ByteArray} {pc : Nat} (h : ¬ pc < code.size) : ∃ e, decode code pc = .error e := by
  have h1 : (Jvm.ClassFile.Reader.u1 : Jvm.ClassFile.Decoder Nat) code pc = .error (.truncated pc) := by
    unfold Jvm.ClassFile.Reader.u1
    show (dite (pc < code.size) (fun h => (do set (pc + 1); pure (code[pc]).toNat : Jvm.ClassFile.Decoder Nat)) (fun _ => throw (Jvm.ClassFile.HasTruncated.truncated pc))) code pc = _
    rw [dif_neg h]
    rfl
  have h2 : ∀ {β : Type} (f : Nat → Jvm.ClassFile.Decoder β), (bind Jvm.ClassFile.Reader.u1 f : Jvm.ClassFile.Decoder β) code pc = .error (.truncated pc) := by
    intro β f
    show Except.bind ((Jvm.ClassFile.Reader.u1 : Jvm.ClassFile.Decoder Nat) code pc) (fun x => f x.1 code x.2) = _
    rw [h1]
    rfl
  have h3 : (Jvm.ClassFile.Decoder.instr pc : Jvm.ClassFile.Decoder _) code pc = .error (.truncated pc) := h2 _
  refine ⟨.truncated pc, ?_⟩
  unfold decode
  show Except.bind ((Jvm.ClassFile.Decoder.instr pc : Jvm.ClassFile.Decoder _) code pc) _ = _
  rw [h3]
  rfl
def nseC : String := "java/util/NoSuchElementException"
def nseN : List String := ["java/lang/RuntimeException", "java/lang/Exception"]
def xt_L : List Cond := Cond.classLink RX2 128 nseC :: Cond.initialized nseC :: vx_at0 RX2 130 nseC nseN
def xt_B : List Cond := [.castable nseC nseC, .declares (Bundle.init0 "java/lang/RuntimeException"), .declares (Bundle.init0 "java/lang/Exception"), .declares (Bundle.init0 Bundle.tN)]
theorem xt_ot : xt_L.all vx_ot = true := by decide +kernel
theorem xt_bad : ∀ w ∈ xt_L.filter (fun w => !goodWord w), w ∈ xt_B := by decide +kernel
theorem xt_fit : Bundle.fit nseC = true := by decide +kernel
theorem xt_fits : ∀ n ∈ nseN, Bundle.fit n = true := by decide +kernel
theorem xt_tr {l : Launch} (h : l.flags = flags0) : l.stackTraces = false := by
  unfold Launch.stackTraces
  rw [h]
  decide +kernel
/-- where a method makes its exception, the class and the constructor are these -/
def xt_yb (code : ByteArray) (pc : Nat) : Bool := match decode code pc with
  | .ok (.new i, _) => Nat.beq i 128 && (match decode code (pc + 4) with
    | .ok (.invokespecial j, _) => Nat.beq j 130
    | _ => true)
  | _ => true
def xt_y (M : XI) : Prop := ∀ pc, pc < M.2.1.size → xt_yb M.2.1 pc = true
theorem xt_Y {M : XI} {pc : Nat} (h : xt_y M) (hy : xl_Y M pc) : decode M.2.1 pc = .ok (.new 128, 3) ∧ decode M.2.1 (pc + 3) = .ok (.dup, 1) ∧ decode M.2.1 (pc + 4) = .ok (.invokespecial 130, 3) ∧ decode M.2.1 (pc + 7) = .ok (.athrow, 1) := by
  obtain ⟨i, j, d0, d3, d4, d7⟩ := hy
  have hlt : pc < M.2.1.size := by
    apply Classical.byContradiction
    intro q
    obtain ⟨e, he⟩ := decode_out q
    rw [he] at d0
    cases d0
  have hb := h pc hlt
  unfold xt_yb at hb
  rw [d0] at hb
  simp only [d4, Bool.and_eq_true] at hb
  have e1 := Nat.eq_of_beq_eq_true hb.1
  have e2 := Nat.eq_of_beq_eq_true hb.2
  subst e1; subst e2
  exact ⟨d0, d3, d4, d7⟩
theorem yX2_source_y : xt_y mX2_source := by
  show ∀ pc, pc < 74 → _
  decide +kernel
theorem yX2_session_y : xt_y mX2_session := by
  show ∀ pc, pc < 102 → _
  decide +kernel
theorem yX2_message_y : xt_y mX2_message := by
  show ∀ pc, pc < 70 → _
  decide +kernel
theorem yX2_finals_y : xt_y mX2_finals := by
  show ∀ pc, pc < 52 → _
  decide +kernel
theorem yX2_input_y : xt_y mX2_input := by
  show ∀ pc, pc < 48 → _
  decide +kernel
theorem yX2_row_y : xt_y mX2_row := by
  show ∀ pc, pc < 36 → _
  decide +kernel
