/-! NAMES, by wip/tools/make.py out of JAVAP.txt and tables_1 -/
def gW : List Cond := lw_tbl.filter goodWord
def gNN : List Cond := lw_tbl.filter g_isN
theorem kw_t {i : Nat} {w : Cond} (h : tables_1[i]? = some w) (hg : goodWord w = true) : w ∈ gW := List.mem_filter.mpr ⟨List.mem_append_right _ (List.mem_of_getElem? h), hg⟩
theorem kn_t {i : Nat} {w : Cond} (h : tables_1[i]? = some w) (hg : g_isN w = true) : w ∈ gNN := List.mem_filter.mpr ⟨List.mem_append_right _ (List.mem_of_getElem? h), hg⟩
theorem ks_t {i : Nat} {w : Cond} (h : (k2_sels lw_privs)[i]? = some w) (hg : goodWord w = true) : w ∈ gW := List.mem_filter.mpr ⟨List.mem_append_left _ (List.mem_of_getElem? h), hg⟩
theorem gW_good : GoodIn gW gW := fun w h => ⟨h, good_of_word (List.mem_filter.mp h).2⟩
theorem gi_I {y : MethodName} {bytes : ByteArray} {maxL : Nat} {ret : Option FieldType} (h : Cond.code y bytes maxL ret ∈ gW) : GoodIn gW (Cond.code y bytes maxL ret :: gW) := fun w hw => (List.mem_cons.mp hw).elim (fun e => by rw [e]; exact gW_good _ h) (gW_good w)
theorem gi_V {own C : String} {idx : Nat} {y : MethodName} {bytes : ByteArray} {maxL : Nat} {ret : Option FieldType} (h1 : Cond.methodLink own idx y ∈ gW) (h2 : Cond.instanceMethod y ∈ gW) (h3 : Cond.selects C y y ∈ gW) (h4 : Cond.initialized C ∈ gW) (h5 : Cond.code y bytes maxL ret ∈ gW) : GoodIn gW (wsV own idx C y (Cond.code y bytes maxL ret :: gW)) := by
  intro w hw
  unfold wsV at hw
  rcases List.mem_append.mp hw with h | h
  · simp only [List.mem_cons, List.not_mem_nil, or_false] at h
    rcases h with rfl | rfl | rfl | rfl
    · exact gW_good _ h1
    · exact gW_good _ h2
    · exact gW_good _ h3
    · exact gW_good _ h4
  · exact gi_I h5 w h
theorem gi_S {own : String} {idx : Nat} {y : MethodName} {bytes : ByteArray} {maxL : Nat} {ret : Option FieldType} (h1 : Cond.methodLink own idx y ∈ gW) (h2 : Cond.static y ∈ gW) (h4 : Cond.initialized own ∈ gW) (h5 : Cond.code y bytes maxL ret ∈ gW) : GoodIn gW (wsS own idx y (Cond.code y bytes maxL ret :: gW)) := by
  intro w hw
  unfold wsS at hw
  rcases List.mem_append.mp hw with h | h
  · simp only [List.mem_cons, List.not_mem_nil, or_false] at h
    rcases h with rfl | rfl | rfl
    · exact gW_good _ h1
    · exact gW_good _ h2
    · exact gW_good _ h4
  · exact gi_I h5 w h
def T_Text : u_T := fun k => match k with
  | 0 => ("SecretRows$Text", "row", "[C", true)
  | _ => ("SecretRows$Text", "length", "I", false)
def ty_Text : Nat → FieldType := fun k => match k with
  | 0 => .array .char
  | _ => .int
theorem nm_Text : ∀ a, a < 2 → ∀ b, b < 2 → a ≠ b → (T_Text a).2.1 ≠ (T_Text b).2.1 := by decide +kernel
theorem tyok_Text : ∀ k, k < 2 → parseFieldDescriptor (T_Text k).2.2.1 = some (ty_Text k) := by decide +kernel
def T_Value : u_T := fun k => match k with
  | 0 => ("SecretRows$Value", "number", "I", true)
  | 1 => ("SecretRows$Value", "text", "LSecretRows$Text;", true)
  | 2 => ("SecretRows$Value", "fromTheEnd", "LSecretRows$Text;", true)
  | _ => ("SecretRows$Value", "byCodes", "LSecretRows$Text;", true)
def ty_Value : Nat → FieldType := fun k => match k with
  | 0 => .int
  | 1 => .object "SecretRows$Text"
  | 2 => .object "SecretRows$Text"
  | _ => .object "SecretRows$Text"
theorem nm_Value : ∀ a, a < 4 → ∀ b, b < 4 → a ≠ b → (T_Value a).2.1 ≠ (T_Value b).2.1 := by decide +kernel
theorem tyok_Value : ∀ k, k < 4 → parseFieldDescriptor (T_Value k).2.2.1 = some (ty_Value k) := by decide +kernel
def T_Secret : u_T := fun k => match k with
  | 0 => ("SecretRows$Secret", "environments", "I", true)
  | 1 => ("SecretRows$Secret", "branches", "I", true)
  | 2 => ("SecretRows$Secret", "jobs", "I", true)
  | 3 => ("SecretRows$Secret", "value", "LSecretRows$Value;", false)
  | 4 => ("SecretRows$Secret", "old", "LSecretRows$Value;", false)
  | 5 => ("SecretRows$Secret", "oldEnd", "I", false)
  | _ => ("SecretRows$Secret", "revoked", "Z", false)
def ty_Secret : Nat → FieldType := fun k => match k with
  | 0 => .int
  | 1 => .int
  | 2 => .int
  | 3 => .object "SecretRows$Value"
  | 4 => .object "SecretRows$Value"
  | 5 => .int
  | _ => .boolean
theorem nm_Secret : ∀ a, a < 7 → ∀ b, b < 7 → a ≠ b → (T_Secret a).2.1 ≠ (T_Secret b).2.1 := by decide +kernel
theorem tyok_Secret : ∀ k, k < 7 → parseFieldDescriptor (T_Secret k).2.2.1 = some (ty_Secret k) := by decide +kernel
def T_Log : u_T := fun k => match k with
  | 0 => ("SecretRows$Log", "came", "LSecretRows$Text;", true)
  | 1 => ("SecretRows$Log", "told", "LSecretRows$Text;", true)
  | 2 => ("SecretRows$Log", "done", "I", false)
  | 3 => ("SecretRows$Log", "covered", "I", false)
  | _ => ("SecretRows$Log", "closed", "Z", false)
def ty_Log : Nat → FieldType := fun k => match k with
  | 0 => .object "SecretRows$Text"
  | 1 => .object "SecretRows$Text"
  | 2 => .int
  | 3 => .int
  | _ => .boolean
theorem nm_Log : ∀ a, a < 5 → ∀ b, b < 5 → a ≠ b → (T_Log a).2.1 ≠ (T_Log b).2.1 := by decide +kernel
theorem tyok_Log : ∀ k, k < 5 → parseFieldDescriptor (T_Log k).2.2.1 = some (ty_Log k) := by decide +kernel
def T_Step : u_T := fun k => match k with
  | 0 => ("SecretRows$Step", "kept", "[LSecretRows$Value;", true)
  | _ => ("SecretRows$Step", "log", "LSecretRows$Log;", true)
def ty_Step : Nat → FieldType := fun k => match k with
  | 0 => .array (.object "SecretRows$Value")
  | _ => .object "SecretRows$Log"
theorem nm_Step : ∀ a, a < 2 → ∀ b, b < 2 → a ≠ b → (T_Step a).2.1 ≠ (T_Step b).2.1 := by decide +kernel
theorem tyok_Step : ∀ k, k < 2 → parseFieldDescriptor (T_Step k).2.2.1 = some (ty_Step k) := by decide +kernel
def T_Token : u_T := fun k => match k with
  | 0 => ("SecretRows$Token", "secret", "I", true)
  | 1 => ("SecretRows$Token", "value", "LSecretRows$Value;", true)
  | _ => ("SecretRows$Token", "end", "I", true)
def ty_Token : Nat → FieldType := fun k => match k with
  | 0 => .int
  | 1 => .object "SecretRows$Value"
  | _ => .int
theorem nm_Token : ∀ a, a < 3 → ∀ b, b < 3 → a ≠ b → (T_Token a).2.1 ≠ (T_Token b).2.1 := by decide +kernel
theorem tyok_Token : ∀ k, k < 3 → parseFieldDescriptor (T_Token k).2.2.1 = some (ty_Token k) := by decide +kernel
def T_Audit : u_T := fun k => match k with
  | 0 => ("SecretRows$Audit", "cells", "[I", true)
  | _ => ("SecretRows$Audit", "rows", "I", false)
def ty_Audit : Nat → FieldType := fun k => match k with
  | 0 => .array .int
  | _ => .int
theorem nm_Audit : ∀ a, a < 2 → ∀ b, b < 2 → a ≠ b → (T_Audit a).2.1 ≠ (T_Audit b).2.1 := by decide +kernel
theorem tyok_Audit : ∀ k, k < 2 → parseFieldDescriptor (T_Audit k).2.2.1 = some (ty_Audit k) := by decide +kernel
def T_Forms : u_T := fun k => match k with
  | 0 => ("SecretRows$Forms", "texts", "[LSecretRows$Text;", true)
  | 1 => ("SecretRows$Forms", "owners", "[I", true)
  | 2 => ("SecretRows$Forms", "kinds", "[I", true)
  | 3 => ("SecretRows$Forms", "olds", "[I", true)
  | _ => ("SecretRows$Forms", "count", "I", false)
def ty_Forms : Nat → FieldType := fun k => match k with
  | 0 => .array (.object "SecretRows$Text")
  | 1 => .array .int
  | 2 => .array .int
  | 3 => .array .int
  | _ => .int
theorem nm_Forms : ∀ a, a < 5 → ∀ b, b < 5 → a ≠ b → (T_Forms a).2.1 ≠ (T_Forms b).2.1 := by decide +kernel
theorem tyok_Forms : ∀ k, k < 5 → parseFieldDescriptor (T_Forms k).2.2.1 = some (ty_Forms k) := by decide +kernel
def T_Main : u_T := fun k => match k with
  | 0 => ("SecretRows", "secrets", "[LSecretRows$Secret;", true)
  | 1 => ("SecretRows", "steps", "[LSecretRows$Step;", true)
  | 2 => ("SecretRows", "tokens", "[LSecretRows$Token;", true)
  | 3 => ("SecretRows", "readings", "LSecretRows$Audit;", true)
  | 4 => ("SecretRows", "tape", "LSecretRows$Text;", true)
  | 5 => ("SecretRows", "forms", "LSecretRows$Forms;", true)
  | 6 => ("SecretRows", "secretCount", "I", false)
  | 7 => ("SecretRows", "stepCount", "I", false)
  | 8 => ("SecretRows", "tokenCount", "I", false)
  | 9 => ("SecretRows", "valueCount", "I", false)
  | 10 => ("SecretRows", "clock", "I", false)
  | 11 => ("SecretRows", "leakSecret", "I", false)
  | 12 => ("SecretRows", "leakForm", "I", false)
  | _ => ("SecretRows", "leakOld", "I", false)
def ty_Main : Nat → FieldType := fun k => match k with
  | 0 => .array (.object "SecretRows$Secret")
  | 1 => .array (.object "SecretRows$Step")
  | 2 => .array (.object "SecretRows$Token")
  | 3 => .object "SecretRows$Audit"
  | 4 => .object "SecretRows$Text"
  | 5 => .object "SecretRows$Forms"
  | 6 => .int
  | 7 => .int
  | 8 => .int
  | 9 => .int
  | 10 => .int
  | 11 => .int
  | 12 => .int
  | _ => .int
theorem nm_Main : ∀ a, a < 14 → ∀ b, b < 14 → a ≠ b → (T_Main a).2.1 ≠ (T_Main b).2.1 := by decide +kernel
theorem tyok_Main : ∀ k, k < 14 → parseFieldDescriptor (T_Main k).2.2.1 = some (ty_Main k) := by decide +kernel
def T_Ref : u_T := fun k => match k with
  | 0 => ("SecretRowsModel", "code", "I", false)
  | 1 => ("SecretRowsModel", "clock", "I", false)
  | 2 => ("SecretRowsModel", "secrets", "I", false)
  | 3 => ("SecretRowsModel", "valuesMany", "I", false)
  | 4 => ("SecretRowsModel", "steps", "I", false)
  | 5 => ("SecretRowsModel", "tokens", "I", false)
  | 6 => ("SecretRowsModel", "audits", "I", false)
  | 7 => ("SecretRowsModel", "whose", "[I", true)
  | 8 => ("SecretRowsModel", "length", "[I", true)
  | 9 => ("SecretRowsModel", "sign", "[I", true)
  | 10 => ("SecretRowsModel", "environments", "[I", true)
  | 11 => ("SecretRowsModel", "branches", "[I", true)
  | 12 => ("SecretRowsModel", "jobs", "[I", true)
  | 13 => ("SecretRowsModel", "value", "[I", true)
  | 14 => ("SecretRowsModel", "old", "[I", true)
  | 15 => ("SecretRowsModel", "till", "[I", true)
  | 16 => ("SecretRowsModel", "isRevoked", "[Z", true)
  | 17 => ("SecretRowsModel", "tape", "[I", true)
  | 18 => ("SecretRowsModel", "taped", "I", false)
  | 19 => ("SecretRowsModel", "kept", "[I", true)
  | 20 => ("SecretRowsModel", "text", "[I", true)
  | 21 => ("SecretRowsModel", "size", "[I", true)
  | 22 => ("SecretRowsModel", "at", "[I", true)
  | 23 => ("SecretRowsModel", "told", "[I", true)
  | 24 => ("SecretRowsModel", "toldMany", "[I", true)
  | 25 => ("SecretRowsModel", "covered", "[I", true)
  | 26 => ("SecretRowsModel", "isClosed", "[Z", true)
  | 27 => ("SecretRowsModel", "auditStep", "[I", true)
  | 28 => ("SecretRowsModel", "auditSecret", "[I", true)
  | 29 => ("SecretRowsModel", "auditClock", "[I", true)
  | 30 => ("SecretRowsModel", "tokenSecret", "[I", true)
  | 31 => ("SecretRowsModel", "tokenValue", "[I", true)
  | 32 => ("SecretRowsModel", "tokenEnd", "[I", true)
  | 33 => ("SecretRowsModel", "leakSecret", "I", false)
  | 34 => ("SecretRowsModel", "leakForm", "I", false)
  | _ => ("SecretRowsModel", "leakOld", "I", false)
def ty_Ref : Nat → FieldType := fun k => match k with
  | 0 => .int
  | 1 => .int
  | 2 => .int
  | 3 => .int
  | 4 => .int
  | 5 => .int
  | 6 => .int
  | 7 => .array .int
  | 8 => .array .int
  | 9 => .array .int
  | 10 => .array .int
  | 11 => .array .int
  | 12 => .array .int
  | 13 => .array .int
  | 14 => .array .int
  | 15 => .array .int
  | 16 => .array .boolean
  | 17 => .array .int
  | 18 => .int
  | 19 => .array .int
  | 20 => .array .int
  | 21 => .array .int
  | 22 => .array .int
  | 23 => .array .int
  | 24 => .array .int
  | 25 => .array .int
  | 26 => .array .boolean
  | 27 => .array .int
  | 28 => .array .int
  | 29 => .array .int
  | 30 => .array .int
  | 31 => .array .int
  | 32 => .array .int
  | 33 => .int
  | 34 => .int
  | _ => .int
theorem nm_Ref : ∀ a, a < 36 → ∀ b, b < 36 → a ≠ b → (T_Ref a).2.1 ≠ (T_Ref b).2.1 := by decide +kernel
theorem tyok_Ref : ∀ k, k < 36 → parseFieldDescriptor (T_Ref k).2.2.1 = some (ty_Ref k) := by decide +kernel
abbrev vwCl : List vw_C := [("SecretRows$Text", T_Text, 2), ("SecretRows$Value", T_Value, 4), ("SecretRows$Secret", T_Secret, 7), ("SecretRows$Log", T_Log, 5), ("SecretRows$Step", T_Step, 2), ("SecretRows$Token", T_Token, 3), ("SecretRows$Audit", T_Audit, 2), ("SecretRows$Forms", T_Forms, 5), ("SecretRows", T_Main, 14), ("SecretRowsModel", T_Ref, 36)]
def gOO : List String := ["SecretRows$Secret", "SecretRows$Step", "SecretRows$Text", "SecretRows$Token", "SecretRows$Value"]
abbrev cAudit_init : ByteArray := prog_2_method_1_code
abbrev yAudit_init : MethodName := ⟨"SecretRows$Audit", "<init>", "()V"⟩
abbrev wsAudit_init : List Cond := .code yAudit_init cAudit_init 1 none :: gW
theorem hdAudit_init : yAudit_init.cls ≠ "java/lang/invoke/MethodHandle" ∧ yAudit_init.cls ≠ "java/lang/invoke/VarHandle" ∧ (parseMethodDescriptor yAudit_init.desc).map (fun d => d.parameters.length) = some 0 := by decide +kernel
abbrev cText_init : ByteArray := prog_7_method_1_code
abbrev yText_init : MethodName := ⟨"SecretRows$Text", "<init>", "(I)V"⟩
abbrev wsText_init : List Cond := .code yText_init cText_init 2 none :: gW
theorem hdText_init : yText_init.cls ≠ "java/lang/invoke/MethodHandle" ∧ yText_init.cls ≠ "java/lang/invoke/VarHandle" ∧ (parseMethodDescriptor yText_init.desc).map (fun d => d.parameters.length) = some 1 := by decide +kernel
abbrev cForms_init : ByteArray := prog_3_method_1_code
abbrev yForms_init : MethodName := ⟨"SecretRows$Forms", "<init>", "()V"⟩
abbrev wsForms_init : List Cond := .code yForms_init cForms_init 1 none :: gW
theorem hdForms_init : yForms_init.cls ≠ "java/lang/invoke/MethodHandle" ∧ yForms_init.cls ≠ "java/lang/invoke/VarHandle" ∧ (parseMethodDescriptor yForms_init.desc).map (fun d => d.parameters.length) = some 0 := by decide +kernel
abbrev cMain_init : ByteArray := prog_1_method_1_code
abbrev yMain_init : MethodName := ⟨"SecretRows", "<init>", "()V"⟩
abbrev wsMain_init : List Cond := .code yMain_init cMain_init 1 none :: gW
theorem hdMain_init : yMain_init.cls ≠ "java/lang/invoke/MethodHandle" ∧ yMain_init.cls ≠ "java/lang/invoke/VarHandle" ∧ (parseMethodDescriptor yMain_init.desc).map (fun d => d.parameters.length) = some 0 := by decide +kernel
abbrev cSecret_init : ByteArray := prog_5_method_1_code
abbrev ySecret_init : MethodName := ⟨"SecretRows$Secret", "<init>", "(III)V"⟩
abbrev wsSecret_init : List Cond := .code ySecret_init cSecret_init 4 none :: gW
theorem hdSecret_init : ySecret_init.cls ≠ "java/lang/invoke/MethodHandle" ∧ ySecret_init.cls ≠ "java/lang/invoke/VarHandle" ∧ (parseMethodDescriptor ySecret_init.desc).map (fun d => d.parameters.length) = some 3 := by decide +kernel
abbrev cMain_secret : ByteArray := prog_1_method_2_code
abbrev yMain_secret : MethodName := ⟨"SecretRows", "secret", "(III)I"⟩
abbrev wsMain_secret : List Cond := .code yMain_secret cMain_secret 4 (some .int) :: gW
theorem hdMain_secret : yMain_secret.cls ≠ "java/lang/invoke/MethodHandle" ∧ yMain_secret.cls ≠ "java/lang/invoke/VarHandle" ∧ (parseMethodDescriptor yMain_secret.desc).map (fun d => d.parameters.length) = some 3 := by decide +kernel
abbrev cText_add : ByteArray := prog_7_method_4_code
abbrev yText_add : MethodName := ⟨"SecretRows$Text", "add", "(I)Z"⟩
abbrev wsText_add : List Cond := .code yText_add cText_add 2 (some .boolean) :: gW
theorem hdText_add : yText_add.cls ≠ "java/lang/invoke/MethodHandle" ∧ yText_add.cls ≠ "java/lang/invoke/VarHandle" ∧ (parseMethodDescriptor yText_add.desc).map (fun d => d.parameters.length) = some 1 := by decide +kernel
abbrev cMain_type : ByteArray := prog_1_method_3_code
abbrev yMain_type : MethodName := ⟨"SecretRows", "type", "(C)Z"⟩
abbrev wsMain_type : List Cond := .code yMain_type cMain_type 2 (some .boolean) :: gW
theorem hdMain_type : yMain_type.cls ≠ "java/lang/invoke/MethodHandle" ∧ yMain_type.cls ≠ "java/lang/invoke/VarHandle" ∧ (parseMethodDescriptor yMain_type.desc).map (fun d => d.parameters.length) = some 1 := by decide +kernel
abbrev cMain_findSecret : ByteArray := prog_1_method_20_code
abbrev yMain_findSecret : MethodName := ⟨"SecretRows", "findSecret", "(I)LSecretRows$Secret;"⟩
abbrev wsMain_findSecret : List Cond := .code yMain_findSecret cMain_findSecret 2 (some (.object "SecretRows$Secret")) :: gW
theorem hdMain_findSecret : yMain_findSecret.cls ≠ "java/lang/invoke/MethodHandle" ∧ yMain_findSecret.cls ≠ "java/lang/invoke/VarHandle" ∧ (parseMethodDescriptor yMain_findSecret.desc).map (fun d => d.parameters.length) = some 1 := by decide +kernel
abbrev cText_length : ByteArray := prog_7_method_2_code
abbrev yText_length : MethodName := ⟨"SecretRows$Text", "length", "()I"⟩
abbrev wsText_length : List Cond := .code yText_length cText_length 1 (some .int) :: gW
theorem hdText_length : yText_length.cls ≠ "java/lang/invoke/MethodHandle" ∧ yText_length.cls ≠ "java/lang/invoke/VarHandle" ∧ (parseMethodDescriptor yText_length.desc).map (fun d => d.parameters.length) = some 0 := by decide +kernel
abbrev cText_at : ByteArray := prog_7_method_3_code
abbrev yText_at : MethodName := ⟨"SecretRows$Text", "at", "(I)I"⟩
abbrev wsText_at : List Cond := .code yText_at cText_at 2 (some .int) :: gW
theorem hdText_at : yText_at.cls ≠ "java/lang/invoke/MethodHandle" ∧ yText_at.cls ≠ "java/lang/invoke/VarHandle" ∧ (parseMethodDescriptor yText_at.desc).map (fun d => d.parameters.length) = some 1 := by decide +kernel
abbrev cText_has : ByteArray := prog_7_method_7_code
abbrev yText_has : MethodName := ⟨"SecretRows$Text", "has", "(C)Z"⟩
abbrev wsText_has : List Cond := .code yText_has cText_has 3 (some .boolean) :: gW
theorem hdText_has : yText_has.cls ≠ "java/lang/invoke/MethodHandle" ∧ yText_has.cls ≠ "java/lang/invoke/VarHandle" ∧ (parseMethodDescriptor yText_has.desc).map (fun d => d.parameters.length) = some 1 := by decide +kernel
abbrev cMain_tapeCanBeValue : ByteArray := prog_1_method_25_code
abbrev yMain_tapeCanBeValue : MethodName := ⟨"SecretRows", "tapeCanBeValue", "()Z"⟩
abbrev wsMain_tapeCanBeValue : List Cond := .code yMain_tapeCanBeValue cMain_tapeCanBeValue 1 (some .boolean) :: gW
theorem hdMain_tapeCanBeValue : yMain_tapeCanBeValue.cls ≠ "java/lang/invoke/MethodHandle" ∧ yMain_tapeCanBeValue.cls ≠ "java/lang/invoke/VarHandle" ∧ (parseMethodDescriptor yMain_tapeCanBeValue.desc).map (fun d => d.parameters.length) = some 0 := by decide +kernel
abbrev cText_agrees : ByteArray := prog_7_method_9_code
abbrev yText_agrees : MethodName := ⟨"SecretRows$Text", "agrees", "(LSecretRows$Text;I)Z"⟩
abbrev wsText_agrees : List Cond := .code yText_agrees cText_agrees 5 (some .boolean) :: gW
theorem hdText_agrees : yText_agrees.cls ≠ "java/lang/invoke/MethodHandle" ∧ yText_agrees.cls ≠ "java/lang/invoke/VarHandle" ∧ (parseMethodDescriptor yText_agrees.desc).map (fun d => d.parameters.length) = some 2 := by decide +kernel
abbrev cText_isLike : ByteArray := prog_7_method_8_code
abbrev yText_isLike : MethodName := ⟨"SecretRows$Text", "isLike", "(LSecretRows$Text;)Z"⟩
abbrev wsText_isLike : List Cond := .code yText_isLike cText_isLike 2 (some .boolean) :: gW
theorem hdText_isLike : yText_isLike.cls ≠ "java/lang/invoke/MethodHandle" ∧ yText_isLike.cls ≠ "java/lang/invoke/VarHandle" ∧ (parseMethodDescriptor yText_isLike.desc).map (fun d => d.parameters.length) = some 1 := by decide +kernel
abbrev cSecret_has : ByteArray := prog_5_method_4_code
abbrev ySecret_has : MethodName := ⟨"SecretRows$Secret", "has", "(LSecretRows$Text;)Z"⟩
abbrev wsSecret_has : List Cond := .code ySecret_has cSecret_has 2 (some .boolean) :: gW
theorem hdSecret_has : ySecret_has.cls ≠ "java/lang/invoke/MethodHandle" ∧ ySecret_has.cls ≠ "java/lang/invoke/VarHandle" ∧ (parseMethodDescriptor ySecret_has.desc).map (fun d => d.parameters.length) = some 1 := by decide +kernel
abbrev cMain_tapeIsHad : ByteArray := prog_1_method_26_code
abbrev yMain_tapeIsHad : MethodName := ⟨"SecretRows", "tapeIsHad", "()Z"⟩
abbrev wsMain_tapeIsHad : List Cond := .code yMain_tapeIsHad cMain_tapeIsHad 3 (some .boolean) :: gW
theorem hdMain_tapeIsHad : yMain_tapeIsHad.cls ≠ "java/lang/invoke/MethodHandle" ∧ yMain_tapeIsHad.cls ≠ "java/lang/invoke/VarHandle" ∧ (parseMethodDescriptor yMain_tapeIsHad.desc).map (fun d => d.parameters.length) = some 0 := by decide +kernel
abbrev cText_addAll : ByteArray := prog_7_method_5_code
abbrev yText_addAll : MethodName := ⟨"SecretRows$Text", "addAll", "(LSecretRows$Text;)V"⟩
abbrev wsText_addAll : List Cond := .code yText_addAll cText_addAll 3 none :: gW
theorem hdText_addAll : yText_addAll.cls ≠ "java/lang/invoke/MethodHandle" ∧ yText_addAll.cls ≠ "java/lang/invoke/VarHandle" ∧ (parseMethodDescriptor yText_addAll.desc).map (fun d => d.parameters.length) = some 1 := by decide +kernel
abbrev cValue_turned : ByteArray := prog_9_method_2_code
abbrev yValue_turned : MethodName := ⟨"SecretRows$Value", "turned", "(LSecretRows$Text;)LSecretRows$Text;"⟩
abbrev wsValue_turned : List Cond := .code yValue_turned cValue_turned 3 (some (.object "SecretRows$Text")) :: gW
theorem hdValue_turned : yValue_turned.cls ≠ "java/lang/invoke/MethodHandle" ∧ yValue_turned.cls ≠ "java/lang/invoke/VarHandle" ∧ (parseMethodDescriptor yValue_turned.desc).map (fun d => d.parameters.length) = some 1 := by decide +kernel
abbrev cValue_digit : ByteArray := prog_9_method_4_code
abbrev yValue_digit : MethodName := ⟨"SecretRows$Value", "digit", "(I)I"⟩
abbrev wsValue_digit : List Cond := .code yValue_digit cValue_digit 1 (some .int) :: gW
theorem hdValue_digit : yValue_digit.cls ≠ "java/lang/invoke/MethodHandle" ∧ yValue_digit.cls ≠ "java/lang/invoke/VarHandle" ∧ (parseMethodDescriptor yValue_digit.desc).map (fun d => d.parameters.length) = some 1 := by decide +kernel
abbrev cValue_codesOf : ByteArray := prog_9_method_3_code
abbrev yValue_codesOf : MethodName := ⟨"SecretRows$Value", "codesOf", "(LSecretRows$Text;)LSecretRows$Text;"⟩
abbrev wsValue_codesOf : List Cond := .code yValue_codesOf cValue_codesOf 3 (some (.object "SecretRows$Text")) :: gW
theorem hdValue_codesOf : yValue_codesOf.cls ≠ "java/lang/invoke/MethodHandle" ∧ yValue_codesOf.cls ≠ "java/lang/invoke/VarHandle" ∧ (parseMethodDescriptor yValue_codesOf.desc).map (fun d => d.parameters.length) = some 1 := by decide +kernel
abbrev cValue_init : ByteArray := prog_9_method_1_code
abbrev yValue_init : MethodName := ⟨"SecretRows$Value", "<init>", "(ILSecretRows$Text;)V"⟩
abbrev wsValue_init : List Cond := .code yValue_init cValue_init 3 none :: gW
theorem hdValue_init : yValue_init.cls ≠ "java/lang/invoke/MethodHandle" ∧ yValue_init.cls ≠ "java/lang/invoke/VarHandle" ∧ (parseMethodDescriptor yValue_init.desc).map (fun d => d.parameters.length) = some 2 := by decide +kernel
abbrev cSecret_rotate : ByteArray := prog_5_method_3_code
abbrev ySecret_rotate : MethodName := ⟨"SecretRows$Secret", "rotate", "(LSecretRows$Value;I)V"⟩
abbrev wsSecret_rotate : List Cond := .code ySecret_rotate cSecret_rotate 3 none :: gW
theorem hdSecret_rotate : ySecret_rotate.cls ≠ "java/lang/invoke/MethodHandle" ∧ ySecret_rotate.cls ≠ "java/lang/invoke/VarHandle" ∧ (parseMethodDescriptor ySecret_rotate.desc).map (fun d => d.parameters.length) = some 2 := by decide +kernel
abbrev cMain_setFromTape : ByteArray := prog_1_method_23_code
abbrev yMain_setFromTape : MethodName := ⟨"SecretRows", "setFromTape", "(LSecretRows$Secret;I)I"⟩
abbrev wsMain_setFromTape : List Cond := .code yMain_setFromTape cMain_setFromTape 3 (some .int) :: gW
theorem hdMain_setFromTape : yMain_setFromTape.cls ≠ "java/lang/invoke/MethodHandle" ∧ yMain_setFromTape.cls ≠ "java/lang/invoke/VarHandle" ∧ (parseMethodDescriptor yMain_setFromTape.desc).map (fun d => d.parameters.length) = some 2 := by decide +kernel
abbrev cText_clear : ByteArray := prog_7_method_6_code
abbrev yText_clear : MethodName := ⟨"SecretRows$Text", "clear", "()V"⟩
abbrev wsText_clear : List Cond := .code yText_clear cText_clear 1 none :: gW
theorem hdText_clear : yText_clear.cls ≠ "java/lang/invoke/MethodHandle" ∧ yText_clear.cls ≠ "java/lang/invoke/VarHandle" ∧ (parseMethodDescriptor yText_clear.desc).map (fun d => d.parameters.length) = some 0 := by decide +kernel
abbrev cMain_set : ByteArray := prog_1_method_4_code
abbrev yMain_set : MethodName := ⟨"SecretRows", "set", "(II)I"⟩
abbrev wsMain_set : List Cond := .code yMain_set cMain_set 4 (some .int) :: gW
theorem hdMain_set : yMain_set.cls ≠ "java/lang/invoke/MethodHandle" ∧ yMain_set.cls ≠ "java/lang/invoke/VarHandle" ∧ (parseMethodDescriptor yMain_set.desc).map (fun d => d.parameters.length) = some 2 := by decide +kernel
abbrev cMain_revoke : ByteArray := prog_1_method_5_code
abbrev yMain_revoke : MethodName := ⟨"SecretRows", "revoke", "(I)Z"⟩
abbrev wsMain_revoke : List Cond := .code yMain_revoke cMain_revoke 3 (some .boolean) :: gW
theorem hdMain_revoke : yMain_revoke.cls ≠ "java/lang/invoke/MethodHandle" ∧ yMain_revoke.cls ≠ "java/lang/invoke/VarHandle" ∧ (parseMethodDescriptor yMain_revoke.desc).map (fun d => d.parameters.length) = some 1 := by decide +kernel
abbrev cMain_tick : ByteArray := prog_1_method_6_code
abbrev yMain_tick : MethodName := ⟨"SecretRows", "tick", "(I)I"⟩
abbrev wsMain_tick : List Cond := .code yMain_tick cMain_tick 2 (some .int) :: gW
theorem hdMain_tick : yMain_tick.cls ≠ "java/lang/invoke/MethodHandle" ∧ yMain_tick.cls ≠ "java/lang/invoke/VarHandle" ∧ (parseMethodDescriptor yMain_tick.desc).map (fun d => d.parameters.length) = some 1 := by decide +kernel
abbrev cMain_isBit : ByteArray := prog_1_method_19_code
abbrev yMain_isBit : MethodName := ⟨"SecretRows", "isBit", "(I)Z"⟩
abbrev wsMain_isBit : List Cond := .code yMain_isBit cMain_isBit 1 (some .boolean) :: gW
theorem hdMain_isBit : yMain_isBit.cls ≠ "java/lang/invoke/MethodHandle" ∧ yMain_isBit.cls ≠ "java/lang/invoke/VarHandle" ∧ (parseMethodDescriptor yMain_isBit.desc).map (fun d => d.parameters.length) = some 1 := by decide +kernel
abbrev cLog_init : ByteArray := prog_4_method_1_code
abbrev yLog_init : MethodName := ⟨"SecretRows$Log", "<init>", "()V"⟩
abbrev wsLog_init : List Cond := .code yLog_init cLog_init 1 none :: gW
theorem hdLog_init : yLog_init.cls ≠ "java/lang/invoke/MethodHandle" ∧ yLog_init.cls ≠ "java/lang/invoke/VarHandle" ∧ (parseMethodDescriptor yLog_init.desc).map (fun d => d.parameters.length) = some 0 := by decide +kernel
abbrev cStep_init : ByteArray := prog_6_method_1_code
abbrev yStep_init : MethodName := ⟨"SecretRows$Step", "<init>", "()V"⟩
abbrev wsStep_init : List Cond := .code yStep_init cStep_init 1 none :: gW
theorem hdStep_init : yStep_init.cls ≠ "java/lang/invoke/MethodHandle" ∧ yStep_init.cls ≠ "java/lang/invoke/VarHandle" ∧ (parseMethodDescriptor yStep_init.desc).map (fun d => d.parameters.length) = some 0 := by decide +kernel
abbrev cSecret_isFor : ByteArray := prog_5_method_2_code
abbrev ySecret_isFor : MethodName := ⟨"SecretRows$Secret", "isFor", "(III)Z"⟩
abbrev wsSecret_isFor : List Cond := .code ySecret_isFor cSecret_isFor 4 (some .boolean) :: gW
theorem hdSecret_isFor : ySecret_isFor.cls ≠ "java/lang/invoke/MethodHandle" ∧ ySecret_isFor.cls ≠ "java/lang/invoke/VarHandle" ∧ (parseMethodDescriptor ySecret_isFor.desc).map (fun d => d.parameters.length) = some 3 := by decide +kernel
abbrev cStep_keep : ByteArray := prog_6_method_2_code
abbrev yStep_keep : MethodName := ⟨"SecretRows$Step", "keep", "(ILSecretRows$Value;)V"⟩
abbrev wsStep_keep : List Cond := .code yStep_keep cStep_keep 3 none :: gW
theorem hdStep_keep : yStep_keep.cls ≠ "java/lang/invoke/MethodHandle" ∧ yStep_keep.cls ≠ "java/lang/invoke/VarHandle" ∧ (parseMethodDescriptor yStep_keep.desc).map (fun d => d.parameters.length) = some 2 := by decide +kernel
abbrev cMain_keepSeen : ByteArray := prog_1_method_27_code
abbrev yMain_keepSeen : MethodName := ⟨"SecretRows", "keepSeen", "(LSecretRows$Step;III)V"⟩
abbrev wsMain_keepSeen : List Cond := .code yMain_keepSeen cMain_keepSeen 7 none :: gW
theorem hdMain_keepSeen : yMain_keepSeen.cls ≠ "java/lang/invoke/MethodHandle" ∧ yMain_keepSeen.cls ≠ "java/lang/invoke/VarHandle" ∧ (parseMethodDescriptor yMain_keepSeen.desc).map (fun d => d.parameters.length) = some 4 := by decide +kernel
abbrev cMain_step : ByteArray := prog_1_method_7_code
abbrev yMain_step : MethodName := ⟨"SecretRows", "step", "(IIIZ)I"⟩
abbrev wsMain_step : List Cond := .code yMain_step cMain_step 6 (some .int) :: gW
theorem hdMain_step : yMain_step.cls ≠ "java/lang/invoke/MethodHandle" ∧ yMain_step.cls ≠ "java/lang/invoke/VarHandle" ∧ (parseMethodDescriptor yMain_step.desc).map (fun d => d.parameters.length) = some 4 := by decide +kernel
abbrev cMain_findStep : ByteArray := prog_1_method_21_code
abbrev yMain_findStep : MethodName := ⟨"SecretRows", "findStep", "(I)LSecretRows$Step;"⟩
abbrev wsMain_findStep : List Cond := .code yMain_findStep cMain_findStep 2 (some (.object "SecretRows$Step")) :: gW
theorem hdMain_findStep : yMain_findStep.cls ≠ "java/lang/invoke/MethodHandle" ∧ yMain_findStep.cls ≠ "java/lang/invoke/VarHandle" ∧ (parseMethodDescriptor yMain_findStep.desc).map (fun d => d.parameters.length) = some 1 := by decide +kernel
abbrev cStep_seenAt : ByteArray := prog_6_method_4_code
abbrev yStep_seenAt : MethodName := ⟨"SecretRows$Step", "seenAt", "(I)I"⟩
abbrev wsStep_seenAt : List Cond := .code yStep_seenAt cStep_seenAt 4 (some .int) :: gW
theorem hdStep_seenAt : yStep_seenAt.cls ≠ "java/lang/invoke/MethodHandle" ∧ yStep_seenAt.cls ≠ "java/lang/invoke/VarHandle" ∧ (parseMethodDescriptor yStep_seenAt.desc).map (fun d => d.parameters.length) = some 1 := by decide +kernel
abbrev cMain_sees : ByteArray := prog_1_method_8_code
abbrev yMain_sees : MethodName := ⟨"SecretRows", "sees", "(II)I"⟩
abbrev wsMain_sees : List Cond := .code yMain_sees cMain_sees 4 (some .int) :: gW
theorem hdMain_sees : yMain_sees.cls ≠ "java/lang/invoke/MethodHandle" ∧ yMain_sees.cls ≠ "java/lang/invoke/VarHandle" ∧ (parseMethodDescriptor yMain_sees.desc).map (fun d => d.parameters.length) = some 2 := by decide +kernel
abbrev cStep_keptOf : ByteArray := prog_6_method_3_code
abbrev yStep_keptOf : MethodName := ⟨"SecretRows$Step", "keptOf", "(I)LSecretRows$Value;"⟩
abbrev wsStep_keptOf : List Cond := .code yStep_keptOf cStep_keptOf 2 (some (.object "SecretRows$Value")) :: gW
theorem hdStep_keptOf : yStep_keptOf.cls ≠ "java/lang/invoke/MethodHandle" ∧ yStep_keptOf.cls ≠ "java/lang/invoke/VarHandle" ∧ (parseMethodDescriptor yStep_keptOf.desc).map (fun d => d.parameters.length) = some 1 := by decide +kernel
abbrev cMain_keptValue : ByteArray := prog_1_method_22_code
abbrev yMain_keptValue : MethodName := ⟨"SecretRows", "keptValue", "(II)LSecretRows$Value;"⟩
abbrev wsMain_keptValue : List Cond := .code yMain_keptValue cMain_keptValue 4 (some (.object "SecretRows$Value")) :: gW
theorem hdMain_keptValue : yMain_keptValue.cls ≠ "java/lang/invoke/MethodHandle" ∧ yMain_keptValue.cls ≠ "java/lang/invoke/VarHandle" ∧ (parseMethodDescriptor yMain_keptValue.desc).map (fun d => d.parameters.length) = some 2 := by decide +kernel
abbrev cAudit_tell : ByteArray := prog_2_method_2_code
abbrev yAudit_tell : MethodName := ⟨"SecretRows$Audit", "tell", "(III)V"⟩
abbrev wsAudit_tell : List Cond := .code yAudit_tell cAudit_tell 5 none :: gW
theorem hdAudit_tell : yAudit_tell.cls ≠ "java/lang/invoke/MethodHandle" ∧ yAudit_tell.cls ≠ "java/lang/invoke/VarHandle" ∧ (parseMethodDescriptor yAudit_tell.desc).map (fun d => d.parameters.length) = some 3 := by decide +kernel
abbrev cMain_read : ByteArray := prog_1_method_9_code
abbrev yMain_read : MethodName := ⟨"SecretRows", "read", "(III)I"⟩
abbrev wsMain_read : List Cond := .code yMain_read cMain_read 5 (some .int) :: gW
theorem hdMain_read : yMain_read.cls ≠ "java/lang/invoke/MethodHandle" ∧ yMain_read.cls ≠ "java/lang/invoke/VarHandle" ∧ (parseMethodDescriptor yMain_read.desc).map (fun d => d.parameters.length) = some 3 := by decide +kernel
abbrev cAudit_cell : ByteArray := prog_2_method_3_code
abbrev yAudit_cell : MethodName := ⟨"SecretRows$Audit", "cell", "(II)I"⟩
abbrev wsAudit_cell : List Cond := .code yAudit_cell cAudit_cell 4 (some .int) :: gW
theorem hdAudit_cell : yAudit_cell.cls ≠ "java/lang/invoke/MethodHandle" ∧ yAudit_cell.cls ≠ "java/lang/invoke/VarHandle" ∧ (parseMethodDescriptor yAudit_cell.desc).map (fun d => d.parameters.length) = some 2 := by decide +kernel
abbrev cMain_audit : ByteArray := prog_1_method_10_code
abbrev yMain_audit : MethodName := ⟨"SecretRows", "audit", "(II)I"⟩
abbrev wsMain_audit : List Cond := .code yMain_audit cMain_audit 3 (some .int) :: gW
theorem hdMain_audit : yMain_audit.cls ≠ "java/lang/invoke/MethodHandle" ∧ yMain_audit.cls ≠ "java/lang/invoke/VarHandle" ∧ (parseMethodDescriptor yMain_audit.desc).map (fun d => d.parameters.length) = some 2 := by decide +kernel
abbrev cLog_takes : ByteArray := prog_4_method_2_code
abbrev yLog_takes : MethodName := ⟨"SecretRows$Log", "takes", "(I)Z"⟩
abbrev wsLog_takes : List Cond := .code yLog_takes cLog_takes 2 (some .boolean) :: gW
theorem hdLog_takes : yLog_takes.cls ≠ "java/lang/invoke/MethodHandle" ∧ yLog_takes.cls ≠ "java/lang/invoke/VarHandle" ∧ (parseMethodDescriptor yLog_takes.desc).map (fun d => d.parameters.length) = some 1 := by decide +kernel
abbrev cForms_clear : ByteArray := prog_3_method_2_code
abbrev yForms_clear : MethodName := ⟨"SecretRows$Forms", "clear", "()V"⟩
abbrev wsForms_clear : List Cond := .code yForms_clear cForms_clear 1 none :: gW
theorem hdForms_clear : yForms_clear.cls ≠ "java/lang/invoke/MethodHandle" ∧ yForms_clear.cls ≠ "java/lang/invoke/VarHandle" ∧ (parseMethodDescriptor yForms_clear.desc).map (fun d => d.parameters.length) = some 0 := by decide +kernel
abbrev cForms_add : ByteArray := prog_3_method_4_code
abbrev yForms_add : MethodName := ⟨"SecretRows$Forms", "add", "(LSecretRows$Text;III)V"⟩
abbrev wsForms_add : List Cond := .code yForms_add cForms_add 5 none :: gW
theorem hdForms_add : yForms_add.cls ≠ "java/lang/invoke/MethodHandle" ∧ yForms_add.cls ≠ "java/lang/invoke/VarHandle" ∧ (parseMethodDescriptor yForms_add.desc).map (fun d => d.parameters.length) = some 4 := by decide +kernel
abbrev cForms_addAll : ByteArray := prog_3_method_3_code
abbrev yForms_addAll : MethodName := ⟨"SecretRows$Forms", "addAll", "(ILSecretRows$Value;I)V"⟩
abbrev wsForms_addAll : List Cond := .code yForms_addAll cForms_addAll 4 none :: gW
theorem hdForms_addAll : yForms_addAll.cls ≠ "java/lang/invoke/MethodHandle" ∧ yForms_addAll.cls ≠ "java/lang/invoke/VarHandle" ∧ (parseMethodDescriptor yForms_addAll.desc).map (fun d => d.parameters.length) = some 3 := by decide +kernel
abbrev cMain_gatherForms : ByteArray := prog_1_method_28_code
abbrev yMain_gatherForms : MethodName := ⟨"SecretRows", "gatherForms", "()V"⟩
abbrev wsMain_gatherForms : List Cond := .code yMain_gatherForms cMain_gatherForms 3 none :: gW
theorem hdMain_gatherForms : yMain_gatherForms.cls ≠ "java/lang/invoke/MethodHandle" ∧ yMain_gatherForms.cls ≠ "java/lang/invoke/VarHandle" ∧ (parseMethodDescriptor yMain_gatherForms.desc).map (fun d => d.parameters.length) = some 0 := by decide +kernel
abbrev cForms_isThere : ByteArray := prog_3_method_11_code
abbrev yForms_isThere : MethodName := ⟨"SecretRows$Forms", "isThere", "(I)Z"⟩
abbrev wsForms_isThere : List Cond := .code yForms_isThere cForms_isThere 2 (some .boolean) :: gW
theorem hdForms_isThere : yForms_isThere.cls ≠ "java/lang/invoke/MethodHandle" ∧ yForms_isThere.cls ≠ "java/lang/invoke/VarHandle" ∧ (parseMethodDescriptor yForms_isThere.desc).map (fun d => d.parameters.length) = some 1 := by decide +kernel
abbrev cForms_textOf : ByteArray := prog_3_method_12_code
abbrev yForms_textOf : MethodName := ⟨"SecretRows$Forms", "textOf", "(I)LSecretRows$Text;"⟩
abbrev wsForms_textOf : List Cond := .code yForms_textOf cForms_textOf 2 (some (.object "SecretRows$Text")) :: gW
theorem hdForms_textOf : yForms_textOf.cls ≠ "java/lang/invoke/MethodHandle" ∧ yForms_textOf.cls ≠ "java/lang/invoke/VarHandle" ∧ (parseMethodDescriptor yForms_textOf.desc).map (fun d => d.parameters.length) = some 1 := by decide +kernel
abbrev cForms_mayCome : ByteArray := prog_3_method_10_code
abbrev yForms_mayCome : MethodName := ⟨"SecretRows$Forms", "mayCome", "(LSecretRows$Text;I)Z"⟩
abbrev wsForms_mayCome : List Cond := .code yForms_mayCome cForms_mayCome 6 (some .boolean) :: gW
theorem hdForms_mayCome : yForms_mayCome.cls ≠ "java/lang/invoke/MethodHandle" ∧ yForms_mayCome.cls ≠ "java/lang/invoke/VarHandle" ∧ (parseMethodDescriptor yForms_mayCome.desc).map (fun d => d.parameters.length) = some 2 := by decide +kernel
abbrev cForms_longestWhole : ByteArray := prog_3_method_9_code
abbrev yForms_longestWhole : MethodName := ⟨"SecretRows$Forms", "longestWhole", "(LSecretRows$Text;I)I"⟩
abbrev wsForms_longestWhole : List Cond := .code yForms_longestWhole cForms_longestWhole 8 (some .int) :: gW
theorem hdForms_longestWhole : yForms_longestWhole.cls ≠ "java/lang/invoke/MethodHandle" ∧ yForms_longestWhole.cls ≠ "java/lang/invoke/VarHandle" ∧ (parseMethodDescriptor yForms_longestWhole.desc).map (fun d => d.parameters.length) = some 2 := by decide +kernel
abbrev cLog_tellStars : ByteArray := prog_4_method_7_code
abbrev yLog_tellStars : MethodName := ⟨"SecretRows$Log", "tellStars", "()V"⟩
abbrev wsLog_tellStars : List Cond := .code yLog_tellStars cLog_tellStars 2 none :: gW
theorem hdLog_tellStars : yLog_tellStars.cls ≠ "java/lang/invoke/MethodHandle" ∧ yLog_tellStars.cls ≠ "java/lang/invoke/VarHandle" ∧ (parseMethodDescriptor yLog_tellStars.desc).map (fun d => d.parameters.length) = some 0 := by decide +kernel
abbrev cForms_lengthOf : ByteArray := prog_3_method_8_code
abbrev yForms_lengthOf : MethodName := ⟨"SecretRows$Forms", "lengthOf", "(I)I"⟩
abbrev wsForms_lengthOf : List Cond := .code yForms_lengthOf cForms_lengthOf 3 (some .int) :: gW
theorem hdForms_lengthOf : yForms_lengthOf.cls ≠ "java/lang/invoke/MethodHandle" ∧ yForms_lengthOf.cls ≠ "java/lang/invoke/VarHandle" ∧ (parseMethodDescriptor yForms_lengthOf.desc).map (fun d => d.parameters.length) = some 1 := by decide +kernel
abbrev cLog_cover : ByteArray := prog_4_method_6_code
abbrev yLog_cover : MethodName := ⟨"SecretRows$Log", "cover", "(LSecretRows$Forms;Z)V"⟩
abbrev wsLog_cover : List Cond := .code yLog_cover cLog_cover 5 none :: gW
theorem hdLog_cover : yLog_cover.cls ≠ "java/lang/invoke/MethodHandle" ∧ yLog_cover.cls ≠ "java/lang/invoke/VarHandle" ∧ (parseMethodDescriptor yLog_cover.desc).map (fun d => d.parameters.length) = some 2 := by decide +kernel
abbrev cLog_come : ByteArray := prog_4_method_4_code
abbrev yLog_come : MethodName := ⟨"SecretRows$Log", "come", "(LSecretRows$Text;LSecretRows$Forms;)V"⟩
abbrev wsLog_come : List Cond := .code yLog_come cLog_come 3 none :: gW
theorem hdLog_come : yLog_come.cls ≠ "java/lang/invoke/MethodHandle" ∧ yLog_come.cls ≠ "java/lang/invoke/VarHandle" ∧ (parseMethodDescriptor yLog_come.desc).map (fun d => d.parameters.length) = some 2 := by decide +kernel
abbrev cMain_logFromTape : ByteArray := prog_1_method_24_code
abbrev yMain_logFromTape : MethodName := ⟨"SecretRows", "logFromTape", "(LSecretRows$Step;)I"⟩
abbrev wsMain_logFromTape : List Cond := .code yMain_logFromTape cMain_logFromTape 2 (some .int) :: gW
theorem hdMain_logFromTape : yMain_logFromTape.cls ≠ "java/lang/invoke/MethodHandle" ∧ yMain_logFromTape.cls ≠ "java/lang/invoke/VarHandle" ∧ (parseMethodDescriptor yMain_logFromTape.desc).map (fun d => d.parameters.length) = some 1 := by decide +kernel
abbrev cMain_log : ByteArray := prog_1_method_11_code
abbrev yMain_log : MethodName := ⟨"SecretRows", "log", "(I)I"⟩
abbrev wsMain_log : List Cond := .code yMain_log cMain_log 3 (some .int) :: gW
theorem hdMain_log : yMain_log.cls ≠ "java/lang/invoke/MethodHandle" ∧ yMain_log.cls ≠ "java/lang/invoke/VarHandle" ∧ (parseMethodDescriptor yMain_log.desc).map (fun d => d.parameters.length) = some 1 := by decide +kernel
abbrev cLog_end : ByteArray := prog_4_method_5_code
abbrev yLog_end : MethodName := ⟨"SecretRows$Log", "end", "(LSecretRows$Forms;)V"⟩
abbrev wsLog_end : List Cond := .code yLog_end cLog_end 2 none :: gW
theorem hdLog_end : yLog_end.cls ≠ "java/lang/invoke/MethodHandle" ∧ yLog_end.cls ≠ "java/lang/invoke/VarHandle" ∧ (parseMethodDescriptor yLog_end.desc).map (fun d => d.parameters.length) = some 1 := by decide +kernel
abbrev cMain_close : ByteArray := prog_1_method_12_code
abbrev yMain_close : MethodName := ⟨"SecretRows", "close", "(I)I"⟩
abbrev wsMain_close : List Cond := .code yMain_close cMain_close 3 (some .int) :: gW
theorem hdMain_close : yMain_close.cls ≠ "java/lang/invoke/MethodHandle" ∧ yMain_close.cls ≠ "java/lang/invoke/VarHandle" ∧ (parseMethodDescriptor yMain_close.desc).map (fun d => d.parameters.length) = some 1 := by decide +kernel
abbrev cMain_told : ByteArray := prog_1_method_13_code
abbrev yMain_told : MethodName := ⟨"SecretRows", "told", "(II)I"⟩
abbrev wsMain_told : List Cond := .code yMain_told cMain_told 4 (some .int) :: gW
theorem hdMain_told : yMain_told.cls ≠ "java/lang/invoke/MethodHandle" ∧ yMain_told.cls ≠ "java/lang/invoke/VarHandle" ∧ (parseMethodDescriptor yMain_told.desc).map (fun d => d.parameters.length) = some 2 := by decide +kernel
abbrev cLog_heldCount : ByteArray := prog_4_method_3_code
abbrev yLog_heldCount : MethodName := ⟨"SecretRows$Log", "heldCount", "()I"⟩
abbrev wsLog_heldCount : List Cond := .code yLog_heldCount cLog_heldCount 1 (some .int) :: gW
theorem hdLog_heldCount : yLog_heldCount.cls ≠ "java/lang/invoke/MethodHandle" ∧ yLog_heldCount.cls ≠ "java/lang/invoke/VarHandle" ∧ (parseMethodDescriptor yLog_heldCount.desc).map (fun d => d.parameters.length) = some 0 := by decide +kernel
abbrev cMain_about : ByteArray := prog_1_method_14_code
abbrev yMain_about : MethodName := ⟨"SecretRows", "about", "(II)I"⟩
abbrev wsMain_about : List Cond := .code yMain_about cMain_about 4 (some .int) :: gW
theorem hdMain_about : yMain_about.cls ≠ "java/lang/invoke/MethodHandle" ∧ yMain_about.cls ≠ "java/lang/invoke/VarHandle" ∧ (parseMethodDescriptor yMain_about.desc).map (fun d => d.parameters.length) = some 2 := by decide +kernel
abbrev cToken_init : ByteArray := prog_8_method_1_code
abbrev yToken_init : MethodName := ⟨"SecretRows$Token", "<init>", "(ILSecretRows$Value;I)V"⟩
abbrev wsToken_init : List Cond := .code yToken_init cToken_init 4 none :: gW
theorem hdToken_init : yToken_init.cls ≠ "java/lang/invoke/MethodHandle" ∧ yToken_init.cls ≠ "java/lang/invoke/VarHandle" ∧ (parseMethodDescriptor yToken_init.desc).map (fun d => d.parameters.length) = some 3 := by decide +kernel
abbrev cMain_token : ByteArray := prog_1_method_15_code
abbrev yMain_token : MethodName := ⟨"SecretRows", "token", "(III)I"⟩
abbrev wsMain_token : List Cond := .code yMain_token cMain_token 5 (some .int) :: gW
theorem hdMain_token : yMain_token.cls ≠ "java/lang/invoke/MethodHandle" ∧ yMain_token.cls ≠ "java/lang/invoke/VarHandle" ∧ (parseMethodDescriptor yMain_token.desc).map (fun d => d.parameters.length) = some 3 := by decide +kernel
abbrev cSecret_stillHas : ByteArray := prog_5_method_5_code
abbrev ySecret_stillHas : MethodName := ⟨"SecretRows$Secret", "stillHas", "(LSecretRows$Value;)Z"⟩
abbrev wsSecret_stillHas : List Cond := .code ySecret_stillHas cSecret_stillHas 2 (some .boolean) :: gW
theorem hdSecret_stillHas : ySecret_stillHas.cls ≠ "java/lang/invoke/MethodHandle" ∧ ySecret_stillHas.cls ≠ "java/lang/invoke/VarHandle" ∧ (parseMethodDescriptor ySecret_stillHas.desc).map (fun d => d.parameters.length) = some 1 := by decide +kernel
abbrev cMain_good : ByteArray := prog_1_method_16_code
abbrev yMain_good : MethodName := ⟨"SecretRows", "good", "(I)Z"⟩
abbrev wsMain_good : List Cond := .code yMain_good cMain_good 4 (some .boolean) :: gW
theorem hdMain_good : yMain_good.cls ≠ "java/lang/invoke/MethodHandle" ∧ yMain_good.cls ≠ "java/lang/invoke/VarHandle" ∧ (parseMethodDescriptor yMain_good.desc).map (fun d => d.parameters.length) = some 1 := by decide +kernel
abbrev cForms_ownerOf : ByteArray := prog_3_method_5_code
abbrev yForms_ownerOf : MethodName := ⟨"SecretRows$Forms", "ownerOf", "(I)I"⟩
abbrev wsForms_ownerOf : List Cond := .code yForms_ownerOf cForms_ownerOf 2 (some .int) :: gW
theorem hdForms_ownerOf : yForms_ownerOf.cls ≠ "java/lang/invoke/MethodHandle" ∧ yForms_ownerOf.cls ≠ "java/lang/invoke/VarHandle" ∧ (parseMethodDescriptor yForms_ownerOf.desc).map (fun d => d.parameters.length) = some 1 := by decide +kernel
abbrev cForms_kindOf : ByteArray := prog_3_method_6_code
abbrev yForms_kindOf : MethodName := ⟨"SecretRows$Forms", "kindOf", "(I)I"⟩
abbrev wsForms_kindOf : List Cond := .code yForms_kindOf cForms_kindOf 2 (some .int) :: gW
theorem hdForms_kindOf : yForms_kindOf.cls ≠ "java/lang/invoke/MethodHandle" ∧ yForms_kindOf.cls ≠ "java/lang/invoke/VarHandle" ∧ (parseMethodDescriptor yForms_kindOf.desc).map (fun d => d.parameters.length) = some 1 := by decide +kernel
abbrev cForms_oldOf : ByteArray := prog_3_method_7_code
abbrev yForms_oldOf : MethodName := ⟨"SecretRows$Forms", "oldOf", "(I)I"⟩
abbrev wsForms_oldOf : List Cond := .code yForms_oldOf cForms_oldOf 2 (some .int) :: gW
theorem hdForms_oldOf : yForms_oldOf.cls ≠ "java/lang/invoke/MethodHandle" ∧ yForms_oldOf.cls ≠ "java/lang/invoke/VarHandle" ∧ (parseMethodDescriptor yForms_oldOf.desc).map (fun d => d.parameters.length) = some 1 := by decide +kernel
abbrev cMain_rememberLeak : ByteArray := prog_1_method_29_code
abbrev yMain_rememberLeak : MethodName := ⟨"SecretRows", "rememberLeak", "(I)V"⟩
abbrev wsMain_rememberLeak : List Cond := .code yMain_rememberLeak cMain_rememberLeak 2 none :: gW
theorem hdMain_rememberLeak : yMain_rememberLeak.cls ≠ "java/lang/invoke/MethodHandle" ∧ yMain_rememberLeak.cls ≠ "java/lang/invoke/VarHandle" ∧ (parseMethodDescriptor yMain_rememberLeak.desc).map (fun d => d.parameters.length) = some 1 := by decide +kernel
abbrev cMain_scan : ByteArray := prog_1_method_17_code
abbrev yMain_scan : MethodName := ⟨"SecretRows", "scan", "()I"⟩
abbrev wsMain_scan : List Cond := .code yMain_scan cMain_scan 4 (some .int) :: gW
theorem hdMain_scan : yMain_scan.cls ≠ "java/lang/invoke/MethodHandle" ∧ yMain_scan.cls ≠ "java/lang/invoke/VarHandle" ∧ (parseMethodDescriptor yMain_scan.desc).map (fun d => d.parameters.length) = some 0 := by decide +kernel
abbrev cMain_leak : ByteArray := prog_1_method_18_code
abbrev yMain_leak : MethodName := ⟨"SecretRows", "leak", "(I)I"⟩
abbrev wsMain_leak : List Cond := .code yMain_leak cMain_leak 2 (some .int) :: gW
theorem hdMain_leak : yMain_leak.cls ≠ "java/lang/invoke/MethodHandle" ∧ yMain_leak.cls ≠ "java/lang/invoke/VarHandle" ∧ (parseMethodDescriptor yMain_leak.desc).map (fun d => d.parameters.length) = some 1 := by decide +kernel
abbrev cRef_init : ByteArray := prog_11_method_1_code
abbrev yRef_init : MethodName := ⟨"SecretRowsModel", "<init>", "()V"⟩
abbrev wsRef_init : List Cond := .code yRef_init cRef_init 1 none :: gW
theorem hdRef_init : yRef_init.cls ≠ "java/lang/invoke/MethodHandle" ∧ yRef_init.cls ≠ "java/lang/invoke/VarHandle" ∧ (parseMethodDescriptor yRef_init.desc).map (fun d => d.parameters.length) = some 0 := by decide +kernel
abbrev cRef_isSecret : ByteArray := prog_11_method_3_code
abbrev yRef_isSecret : MethodName := ⟨"SecretRowsModel", "isSecret", "(I)Z"⟩
abbrev wsRef_isSecret : List Cond := .code yRef_isSecret cRef_isSecret 2 (some .boolean) :: gW
theorem hdRef_isSecret : yRef_isSecret.cls ≠ "java/lang/invoke/MethodHandle" ∧ yRef_isSecret.cls ≠ "java/lang/invoke/VarHandle" ∧ (parseMethodDescriptor yRef_isSecret.desc).map (fun d => d.parameters.length) = some 1 := by decide +kernel
abbrev cRef_isStep : ByteArray := prog_11_method_4_code
abbrev yRef_isStep : MethodName := ⟨"SecretRowsModel", "isStep", "(I)Z"⟩
abbrev wsRef_isStep : List Cond := .code yRef_isStep cRef_isStep 2 (some .boolean) :: gW
theorem hdRef_isStep : yRef_isStep.cls ≠ "java/lang/invoke/MethodHandle" ∧ yRef_isStep.cls ≠ "java/lang/invoke/VarHandle" ∧ (parseMethodDescriptor yRef_isStep.desc).map (fun d => d.parameters.length) = some 1 := by decide +kernel
abbrev cRef_secret : ByteArray := prog_11_method_5_code
abbrev yRef_secret : MethodName := ⟨"SecretRowsModel", "secret", "(III)I"⟩
abbrev wsRef_secret : List Cond := .code yRef_secret cRef_secret 4 (some .int) :: gW
theorem hdRef_secret : yRef_secret.cls ≠ "java/lang/invoke/MethodHandle" ∧ yRef_secret.cls ≠ "java/lang/invoke/VarHandle" ∧ (parseMethodDescriptor yRef_secret.desc).map (fun d => d.parameters.length) = some 3 := by decide +kernel
abbrev cRef_type : ByteArray := prog_11_method_6_code
abbrev yRef_type : MethodName := ⟨"SecretRowsModel", "type", "(C)Z"⟩
abbrev wsRef_type : List Cond := .code yRef_type cRef_type 2 (some .boolean) :: gW
theorem hdRef_type : yRef_type.cls ≠ "java/lang/invoke/MethodHandle" ∧ yRef_type.cls ≠ "java/lang/invoke/VarHandle" ∧ (parseMethodDescriptor yRef_type.desc).map (fun d => d.parameters.length) = some 1 := by decide +kernel
abbrev cRef_isTaped : ByteArray := prog_11_method_7_code
abbrev yRef_isTaped : MethodName := ⟨"SecretRowsModel", "isTaped", "(II)Z"⟩
abbrev wsRef_isTaped : List Cond := .code yRef_isTaped cRef_isTaped 5 (some .boolean) :: gW
theorem hdRef_isTaped : yRef_isTaped.cls ≠ "java/lang/invoke/MethodHandle" ∧ yRef_isTaped.cls ≠ "java/lang/invoke/VarHandle" ∧ (parseMethodDescriptor yRef_isTaped.desc).map (fun d => d.parameters.length) = some 2 := by decide +kernel
abbrev cRef_set : ByteArray := prog_11_method_8_code
abbrev yRef_set : MethodName := ⟨"SecretRowsModel", "set", "(II)I"⟩
abbrev wsRef_set : List Cond := .code yRef_set cRef_set 5 (some .int) :: gW
theorem hdRef_set : yRef_set.cls ≠ "java/lang/invoke/MethodHandle" ∧ yRef_set.cls ≠ "java/lang/invoke/VarHandle" ∧ (parseMethodDescriptor yRef_set.desc).map (fun d => d.parameters.length) = some 2 := by decide +kernel
abbrev cRef_revoke : ByteArray := prog_11_method_9_code
abbrev yRef_revoke : MethodName := ⟨"SecretRowsModel", "revoke", "(I)Z"⟩
abbrev wsRef_revoke : List Cond := .code yRef_revoke cRef_revoke 2 (some .boolean) :: gW
theorem hdRef_revoke : yRef_revoke.cls ≠ "java/lang/invoke/MethodHandle" ∧ yRef_revoke.cls ≠ "java/lang/invoke/VarHandle" ∧ (parseMethodDescriptor yRef_revoke.desc).map (fun d => d.parameters.length) = some 1 := by decide +kernel
abbrev cRef_tick : ByteArray := prog_11_method_10_code
abbrev yRef_tick : MethodName := ⟨"SecretRowsModel", "tick", "(I)I"⟩
abbrev wsRef_tick : List Cond := .code yRef_tick cRef_tick 2 (some .int) :: gW
theorem hdRef_tick : yRef_tick.cls ≠ "java/lang/invoke/MethodHandle" ∧ yRef_tick.cls ≠ "java/lang/invoke/VarHandle" ∧ (parseMethodDescriptor yRef_tick.desc).map (fun d => d.parameters.length) = some 1 := by decide +kernel
abbrev cRef_step : ByteArray := prog_11_method_11_code
abbrev yRef_step : MethodName := ⟨"SecretRowsModel", "step", "(IIIZ)I"⟩
abbrev wsRef_step : List Cond := .code yRef_step cRef_step 7 (some .int) :: gW
theorem hdRef_step : yRef_step.cls ≠ "java/lang/invoke/MethodHandle" ∧ yRef_step.cls ≠ "java/lang/invoke/VarHandle" ∧ (parseMethodDescriptor yRef_step.desc).map (fun d => d.parameters.length) = some 4 := by decide +kernel
abbrev cRef_keptOf : ByteArray := prog_11_method_12_code
abbrev yRef_keptOf : MethodName := ⟨"SecretRowsModel", "keptOf", "(II)I"⟩
abbrev wsRef_keptOf : List Cond := .code yRef_keptOf cRef_keptOf 3 (some .int) :: gW
theorem hdRef_keptOf : yRef_keptOf.cls ≠ "java/lang/invoke/MethodHandle" ∧ yRef_keptOf.cls ≠ "java/lang/invoke/VarHandle" ∧ (parseMethodDescriptor yRef_keptOf.desc).map (fun d => d.parameters.length) = some 2 := by decide +kernel
abbrev cRef_sees : ByteArray := prog_11_method_13_code
abbrev yRef_sees : MethodName := ⟨"SecretRowsModel", "sees", "(II)I"⟩
abbrev wsRef_sees : List Cond := .code yRef_sees cRef_sees 5 (some .int) :: gW
theorem hdRef_sees : yRef_sees.cls ≠ "java/lang/invoke/MethodHandle" ∧ yRef_sees.cls ≠ "java/lang/invoke/VarHandle" ∧ (parseMethodDescriptor yRef_sees.desc).map (fun d => d.parameters.length) = some 2 := by decide +kernel
abbrev cRef_read : ByteArray := prog_11_method_14_code
abbrev yRef_read : MethodName := ⟨"SecretRowsModel", "read", "(III)I"⟩
abbrev wsRef_read : List Cond := .code yRef_read cRef_read 5 (some .int) :: gW
theorem hdRef_read : yRef_read.cls ≠ "java/lang/invoke/MethodHandle" ∧ yRef_read.cls ≠ "java/lang/invoke/VarHandle" ∧ (parseMethodDescriptor yRef_read.desc).map (fun d => d.parameters.length) = some 3 := by decide +kernel
abbrev cRef_audit : ByteArray := prog_11_method_15_code
abbrev yRef_audit : MethodName := ⟨"SecretRowsModel", "audit", "(II)I"⟩
abbrev wsRef_audit : List Cond := .code yRef_audit cRef_audit 3 (some .int) :: gW
theorem hdRef_audit : yRef_audit.cls ≠ "java/lang/invoke/MethodHandle" ∧ yRef_audit.cls ≠ "java/lang/invoke/VarHandle" ∧ (parseMethodDescriptor yRef_audit.desc).map (fun d => d.parameters.length) = some 2 := by decide +kernel
abbrev cRef_counts : ByteArray := prog_11_method_16_code
abbrev yRef_counts : MethodName := ⟨"SecretRowsModel", "counts", "(I)Z"⟩
abbrev wsRef_counts : List Cond := .code yRef_counts cRef_counts 3 (some .boolean) :: gW
theorem hdRef_counts : yRef_counts.cls ≠ "java/lang/invoke/MethodHandle" ∧ yRef_counts.cls ≠ "java/lang/invoke/VarHandle" ∧ (parseMethodDescriptor yRef_counts.desc).map (fun d => d.parameters.length) = some 1 := by decide +kernel
abbrev cRef_formLength : ByteArray := prog_11_method_17_code
abbrev yRef_formLength : MethodName := ⟨"SecretRowsModel", "formLength", "(II)I"⟩
abbrev wsRef_formLength : List Cond := .code yRef_formLength cRef_formLength 3 (some .int) :: gW
theorem hdRef_formLength : yRef_formLength.cls ≠ "java/lang/invoke/MethodHandle" ∧ yRef_formLength.cls ≠ "java/lang/invoke/VarHandle" ∧ (parseMethodDescriptor yRef_formLength.desc).map (fun d => d.parameters.length) = some 2 := by decide +kernel
abbrev cRef_digit : ByteArray := prog_11_method_18_code
abbrev yRef_digit : MethodName := ⟨"SecretRowsModel", "digit", "(I)I"⟩
abbrev wsRef_digit : List Cond := .code yRef_digit cRef_digit 1 (some .int) :: gW
theorem hdRef_digit : yRef_digit.cls ≠ "java/lang/invoke/MethodHandle" ∧ yRef_digit.cls ≠ "java/lang/invoke/VarHandle" ∧ (parseMethodDescriptor yRef_digit.desc).map (fun d => d.parameters.length) = some 1 := by decide +kernel
abbrev cRef_formSign : ByteArray := prog_11_method_19_code
abbrev yRef_formSign : MethodName := ⟨"SecretRowsModel", "formSign", "(III)I"⟩
abbrev wsRef_formSign : List Cond := .code yRef_formSign cRef_formSign 4 (some .int) :: gW
theorem hdRef_formSign : yRef_formSign.cls ≠ "java/lang/invoke/MethodHandle" ∧ yRef_formSign.cls ≠ "java/lang/invoke/VarHandle" ∧ (parseMethodDescriptor yRef_formSign.desc).map (fun d => d.parameters.length) = some 3 := by decide +kernel
abbrev cRef_common : ByteArray := prog_11_method_20_code
abbrev yRef_common : MethodName := ⟨"SecretRowsModel", "common", "([IIIII)I"⟩
abbrev wsRef_common : List Cond := .code yRef_common cRef_common 7 (some .int) :: gW
theorem hdRef_common : yRef_common.cls ≠ "java/lang/invoke/MethodHandle" ∧ yRef_common.cls ≠ "java/lang/invoke/VarHandle" ∧ (parseMethodDescriptor yRef_common.desc).map (fun d => d.parameters.length) = some 5 := by decide +kernel
abbrev cRef_tell : ByteArray := prog_11_method_21_code
abbrev yRef_tell : MethodName := ⟨"SecretRowsModel", "tell", "(II)V"⟩
abbrev wsRef_tell : List Cond := .code yRef_tell cRef_tell 3 none :: gW
theorem hdRef_tell : yRef_tell.cls ≠ "java/lang/invoke/MethodHandle" ∧ yRef_tell.cls ≠ "java/lang/invoke/VarHandle" ∧ (parseMethodDescriptor yRef_tell.desc).map (fun d => d.parameters.length) = some 2 := by decide +kernel
abbrev cRef_cover : ByteArray := prog_11_method_22_code
abbrev yRef_cover : MethodName := ⟨"SecretRowsModel", "cover", "(IZ)V"⟩
abbrev wsRef_cover : List Cond := .code yRef_cover cRef_cover 11 none :: gW
theorem hdRef_cover : yRef_cover.cls ≠ "java/lang/invoke/MethodHandle" ∧ yRef_cover.cls ≠ "java/lang/invoke/VarHandle" ∧ (parseMethodDescriptor yRef_cover.desc).map (fun d => d.parameters.length) = some 2 := by decide +kernel
abbrev cRef_log : ByteArray := prog_11_method_23_code
abbrev yRef_log : MethodName := ⟨"SecretRowsModel", "log", "(I)I"⟩
abbrev wsRef_log : List Cond := .code yRef_log cRef_log 4 (some .int) :: gW
theorem hdRef_log : yRef_log.cls ≠ "java/lang/invoke/MethodHandle" ∧ yRef_log.cls ≠ "java/lang/invoke/VarHandle" ∧ (parseMethodDescriptor yRef_log.desc).map (fun d => d.parameters.length) = some 1 := by decide +kernel
abbrev cRef_close : ByteArray := prog_11_method_24_code
abbrev yRef_close : MethodName := ⟨"SecretRowsModel", "close", "(I)I"⟩
abbrev wsRef_close : List Cond := .code yRef_close cRef_close 2 (some .int) :: gW
theorem hdRef_close : yRef_close.cls ≠ "java/lang/invoke/MethodHandle" ∧ yRef_close.cls ≠ "java/lang/invoke/VarHandle" ∧ (parseMethodDescriptor yRef_close.desc).map (fun d => d.parameters.length) = some 1 := by decide +kernel
abbrev cRef_told : ByteArray := prog_11_method_25_code
abbrev yRef_told : MethodName := ⟨"SecretRowsModel", "told", "(II)I"⟩
abbrev wsRef_told : List Cond := .code yRef_told cRef_told 3 (some .int) :: gW
theorem hdRef_told : yRef_told.cls ≠ "java/lang/invoke/MethodHandle" ∧ yRef_told.cls ≠ "java/lang/invoke/VarHandle" ∧ (parseMethodDescriptor yRef_told.desc).map (fun d => d.parameters.length) = some 2 := by decide +kernel
abbrev cRef_about : ByteArray := prog_11_method_26_code
abbrev yRef_about : MethodName := ⟨"SecretRowsModel", "about", "(II)I"⟩
abbrev wsRef_about : List Cond := .code yRef_about cRef_about 3 (some .int) :: gW
theorem hdRef_about : yRef_about.cls ≠ "java/lang/invoke/MethodHandle" ∧ yRef_about.cls ≠ "java/lang/invoke/VarHandle" ∧ (parseMethodDescriptor yRef_about.desc).map (fun d => d.parameters.length) = some 2 := by decide +kernel
abbrev cRef_token : ByteArray := prog_11_method_27_code
abbrev yRef_token : MethodName := ⟨"SecretRowsModel", "token", "(III)I"⟩
abbrev wsRef_token : List Cond := .code yRef_token cRef_token 4 (some .int) :: gW
theorem hdRef_token : yRef_token.cls ≠ "java/lang/invoke/MethodHandle" ∧ yRef_token.cls ≠ "java/lang/invoke/VarHandle" ∧ (parseMethodDescriptor yRef_token.desc).map (fun d => d.parameters.length) = some 3 := by decide +kernel
abbrev cRef_good : ByteArray := prog_11_method_28_code
abbrev yRef_good : MethodName := ⟨"SecretRowsModel", "good", "(I)Z"⟩
abbrev wsRef_good : List Cond := .code yRef_good cRef_good 2 (some .boolean) :: gW
theorem hdRef_good : yRef_good.cls ≠ "java/lang/invoke/MethodHandle" ∧ yRef_good.cls ≠ "java/lang/invoke/VarHandle" ∧ (parseMethodDescriptor yRef_good.desc).map (fun d => d.parameters.length) = some 1 := by decide +kernel
abbrev cRef_scan : ByteArray := prog_11_method_29_code
abbrev yRef_scan : MethodName := ⟨"SecretRowsModel", "scan", "()I"⟩
abbrev wsRef_scan : List Cond := .code yRef_scan cRef_scan 8 (some .int) :: gW
theorem hdRef_scan : yRef_scan.cls ≠ "java/lang/invoke/MethodHandle" ∧ yRef_scan.cls ≠ "java/lang/invoke/VarHandle" ∧ (parseMethodDescriptor yRef_scan.desc).map (fun d => d.parameters.length) = some 0 := by decide +kernel
abbrev cRef_leak : ByteArray := prog_11_method_30_code
abbrev yRef_leak : MethodName := ⟨"SecretRowsModel", "leak", "(I)I"⟩
abbrev wsRef_leak : List Cond := .code yRef_leak cRef_leak 2 (some .int) :: gW
theorem hdRef_leak : yRef_leak.cls ≠ "java/lang/invoke/MethodHandle" ∧ yRef_leak.cls ≠ "java/lang/invoke/VarHandle" ∧ (parseMethodDescriptor yRef_leak.desc).map (fun d => d.parameters.length) = some 1 := by decide +kernel
theorem kw_1 : Cond.initialized "SecretRows" ∈ gW := kw_t (i := 1) (by decide +kernel) (by decide +kernel)
theorem kw_2 : Cond.initialized "SecretRows$Audit" ∈ gW := kw_t (i := 2) (by decide +kernel) (by decide +kernel)
theorem kw_3 : Cond.initialized "SecretRows$Text" ∈ gW := kw_t (i := 3) (by decide +kernel) (by decide +kernel)
theorem kw_4 : Cond.initialized "java/lang/Math" ∈ gW := kw_t (i := 4) (by decide +kernel) (by decide +kernel)
theorem kw_5 : Cond.initialized "SecretRows$Forms" ∈ gW := kw_t (i := 5) (by decide +kernel) (by decide +kernel)
theorem kw_6 : Cond.initialized "SecretRowsModel" ∈ gW := kw_t (i := 6) (by decide +kernel) (by decide +kernel)
theorem kw_7 : Cond.initialized "SecretRows$Secret" ∈ gW := kw_t (i := 7) (by decide +kernel) (by decide +kernel)
theorem kw_8 : Cond.initialized "SecretRows$Value" ∈ gW := kw_t (i := 8) (by decide +kernel) (by decide +kernel)
theorem kw_9 : Cond.initialized "SecretRows$Step" ∈ gW := kw_t (i := 9) (by decide +kernel) (by decide +kernel)
theorem kw_10 : Cond.initialized "SecretRows$Log" ∈ gW := kw_t (i := 10) (by decide +kernel) (by decide +kernel)
theorem kw_11 : Cond.initialized "SecretRows$Token" ∈ gW := kw_t (i := 11) (by decide +kernel) (by decide +kernel)
set_option maxRecDepth 100000 in
theorem kw_16 : (Cond.code ⟨"SecretRows", "<init>", "()V"⟩ prog_1_method_1_code 1 (Option.none : Option FieldType)) ∈ gW := kw_t (i := 16) rfl rfl
theorem kw_17 : Cond.methodLink "SecretRows" 3 ⟨"java/lang/Object", "<init>", "()V"⟩ ∈ gW := kw_t (i := 17) (by decide +kernel) (by decide +kernel)
theorem kw_18 : Cond.instanceMethod ⟨"java/lang/Object", "<init>", "()V"⟩ ∈ gW := kw_t (i := 18) (by decide +kernel) (by decide +kernel)
set_option maxRecDepth 100000 in
theorem kw_19 : (Cond.code ⟨"java/lang/Object", "<init>", "()V"⟩ ⟨#[0xb1]⟩ 1 (Option.none : Option FieldType)) ∈ gW := kw_t (i := 19) rfl rfl
theorem kw_20 : Cond.classLink "SecretRows" 9 "SecretRows$Secret" ∈ gW := kw_t (i := 20) (by decide +kernel) (by decide +kernel)
theorem kw_22 : Cond.classLink "SecretRows" 15 "SecretRows$Step" ∈ gW := kw_t (i := 22) (by decide +kernel) (by decide +kernel)
theorem kw_24 : Cond.classLink "SecretRows" 21 "SecretRows$Token" ∈ gW := kw_t (i := 24) (by decide +kernel) (by decide +kernel)
theorem kw_26 : Cond.classLink "SecretRows" 27 "SecretRows$Audit" ∈ gW := kw_t (i := 26) (by decide +kernel) (by decide +kernel)
theorem kw_27 : Cond.instantiable "SecretRows$Audit" 2 ∈ gW := kw_t (i := 27) (by decide +kernel) (by decide +kernel)
theorem kw_28 : Cond.methodLink "SecretRows" 29 ⟨"SecretRows$Audit", "<init>", "()V"⟩ ∈ gW := kw_t (i := 28) (by decide +kernel) (by decide +kernel)
theorem kw_29 : Cond.instanceMethod ⟨"SecretRows$Audit", "<init>", "()V"⟩ ∈ gW := kw_t (i := 29) (by decide +kernel) (by decide +kernel)
set_option maxRecDepth 100000 in
theorem kw_30 : (Cond.code ⟨"SecretRows$Audit", "<init>", "()V"⟩ prog_2_method_1_code 1 (Option.none : Option FieldType)) ∈ gW := kw_t (i := 30) rfl rfl
theorem kw_31 : Cond.methodLink "SecretRows$Audit" 3 ⟨"java/lang/Object", "<init>", "()V"⟩ ∈ gW := kw_t (i := 31) (by decide +kernel) (by decide +kernel)
theorem kw_32 : Cond.fieldLink "SecretRows$Audit" 9 "SecretRows$Audit" "cells" "[I" ∈ gW := kw_t (i := 32) (by decide +kernel) (by decide +kernel)
theorem kw_33 : Cond.fieldLink "SecretRows$Audit" 15 "SecretRows$Audit" "rows" "I" ∈ gW := kw_t (i := 33) (by decide +kernel) (by decide +kernel)
theorem kw_34 : Cond.laysFinal "SecretRows$Audit" "SecretRows$Audit" "cells" "[I" ∈ gW := kw_t (i := 34) (by decide +kernel) (by decide +kernel)
theorem kw_36 : Cond.lays "SecretRows$Audit" "SecretRows$Audit" "rows" "I" ∈ gW := kw_t (i := 36) (by decide +kernel) (by decide +kernel)
theorem kw_39 : Cond.arrayClass FieldType.int ∈ gW := kw_t (i := 39) (by decide +kernel) (by decide +kernel)
theorem kw_40 : Cond.classLink "SecretRows" 34 "SecretRows$Text" ∈ gW := kw_t (i := 40) (by decide +kernel) (by decide +kernel)
theorem kw_41 : Cond.instantiable "SecretRows$Text" 2 ∈ gW := kw_t (i := 41) (by decide +kernel) (by decide +kernel)
theorem kw_42 : Cond.methodLink "SecretRows" 36 ⟨"SecretRows$Text", "<init>", "(I)V"⟩ ∈ gW := kw_t (i := 42) (by decide +kernel) (by decide +kernel)
theorem kw_43 : Cond.instanceMethod ⟨"SecretRows$Text", "<init>", "(I)V"⟩ ∈ gW := kw_t (i := 43) (by decide +kernel) (by decide +kernel)
set_option maxRecDepth 100000 in
theorem kw_44 : (Cond.code ⟨"SecretRows$Text", "<init>", "(I)V"⟩ prog_7_method_1_code 2 (Option.none : Option FieldType)) ∈ gW := kw_t (i := 44) rfl rfl
theorem kw_45 : Cond.methodLink "SecretRows$Text" 3 ⟨"java/lang/Object", "<init>", "()V"⟩ ∈ gW := kw_t (i := 45) (by decide +kernel) (by decide +kernel)
theorem kw_46 : Cond.methodLink "SecretRows$Text" 9 ⟨"java/lang/Math", "max", "(II)I"⟩ ∈ gW := kw_t (i := 46) (by decide +kernel) (by decide +kernel)
theorem kw_47 : Cond.static ⟨"java/lang/Math", "max", "(II)I"⟩ ∈ gW := kw_t (i := 47) (by decide +kernel) (by decide +kernel)
set_option maxRecDepth 100000 in
theorem kw_48 : (Cond.code ⟨"java/lang/Math", "max", "(II)I"⟩ Lib.Math.max.code 2 (Option.some FieldType.int)) ∈ gW := kw_t (i := 48) rfl rfl
theorem kw_49 : Cond.fieldLink "SecretRows$Text" 15 "SecretRows$Text" "row" "[C" ∈ gW := kw_t (i := 49) (by decide +kernel) (by decide +kernel)
theorem kw_50 : Cond.fieldLink "SecretRows$Text" 21 "SecretRows$Text" "length" "I" ∈ gW := kw_t (i := 50) (by decide +kernel) (by decide +kernel)
theorem kw_51 : Cond.laysFinal "SecretRows$Text" "SecretRows$Text" "row" "[C" ∈ gW := kw_t (i := 51) (by decide +kernel) (by decide +kernel)
theorem kw_53 : Cond.lays "SecretRows$Text" "SecretRows$Text" "length" "I" ∈ gW := kw_t (i := 53) (by decide +kernel) (by decide +kernel)
theorem kw_56 : Cond.arrayClass FieldType.char ∈ gW := kw_t (i := 56) (by decide +kernel) (by decide +kernel)
theorem kw_57 : Cond.classLink "SecretRows" 43 "SecretRows$Forms" ∈ gW := kw_t (i := 57) (by decide +kernel) (by decide +kernel)
theorem kw_58 : Cond.instantiable "SecretRows$Forms" 5 ∈ gW := kw_t (i := 58) (by decide +kernel) (by decide +kernel)
theorem kw_59 : Cond.methodLink "SecretRows" 45 ⟨"SecretRows$Forms", "<init>", "()V"⟩ ∈ gW := kw_t (i := 59) (by decide +kernel) (by decide +kernel)
theorem kw_60 : Cond.instanceMethod ⟨"SecretRows$Forms", "<init>", "()V"⟩ ∈ gW := kw_t (i := 60) (by decide +kernel) (by decide +kernel)
set_option maxRecDepth 100000 in
theorem kw_61 : (Cond.code ⟨"SecretRows$Forms", "<init>", "()V"⟩ prog_3_method_1_code 1 (Option.none : Option FieldType)) ∈ gW := kw_t (i := 61) rfl rfl
theorem kw_62 : Cond.methodLink "SecretRows$Forms" 3 ⟨"java/lang/Object", "<init>", "()V"⟩ ∈ gW := kw_t (i := 62) (by decide +kernel) (by decide +kernel)
theorem kw_63 : Cond.classLink "SecretRows$Forms" 9 "SecretRows$Text" ∈ gW := kw_t (i := 63) (by decide +kernel) (by decide +kernel)
theorem kw_65 : Cond.fieldLink "SecretRows$Forms" 11 "SecretRows$Forms" "texts" "[LSecretRows$Text;" ∈ gW := kw_t (i := 65) (by decide +kernel) (by decide +kernel)
theorem kw_66 : Cond.fieldLink "SecretRows$Forms" 17 "SecretRows$Forms" "owners" "[I" ∈ gW := kw_t (i := 66) (by decide +kernel) (by decide +kernel)
theorem kw_67 : Cond.fieldLink "SecretRows$Forms" 21 "SecretRows$Forms" "kinds" "[I" ∈ gW := kw_t (i := 67) (by decide +kernel) (by decide +kernel)
theorem kw_68 : Cond.fieldLink "SecretRows$Forms" 24 "SecretRows$Forms" "olds" "[I" ∈ gW := kw_t (i := 68) (by decide +kernel) (by decide +kernel)
theorem kw_69 : Cond.fieldLink "SecretRows$Forms" 27 "SecretRows$Forms" "count" "I" ∈ gW := kw_t (i := 69) (by decide +kernel) (by decide +kernel)
theorem kw_70 : Cond.laysFinal "SecretRows$Forms" "SecretRows$Forms" "texts" "[LSecretRows$Text;" ∈ gW := kw_t (i := 70) (by decide +kernel) (by decide +kernel)
theorem kw_72 : Cond.laysFinal "SecretRows$Forms" "SecretRows$Forms" "owners" "[I" ∈ gW := kw_t (i := 72) (by decide +kernel) (by decide +kernel)
theorem kw_74 : Cond.laysFinal "SecretRows$Forms" "SecretRows$Forms" "kinds" "[I" ∈ gW := kw_t (i := 74) (by decide +kernel) (by decide +kernel)
theorem kw_76 : Cond.laysFinal "SecretRows$Forms" "SecretRows$Forms" "olds" "[I" ∈ gW := kw_t (i := 76) (by decide +kernel) (by decide +kernel)
theorem kw_78 : Cond.lays "SecretRows$Forms" "SecretRows$Forms" "count" "I" ∈ gW := kw_t (i := 78) (by decide +kernel) (by decide +kernel)
theorem kw_81 : Cond.fieldLink "SecretRows" 11 "SecretRows" "secrets" "[LSecretRows$Secret;" ∈ gW := kw_t (i := 81) (by decide +kernel) (by decide +kernel)
theorem kw_82 : Cond.fieldLink "SecretRows" 17 "SecretRows" "steps" "[LSecretRows$Step;" ∈ gW := kw_t (i := 82) (by decide +kernel) (by decide +kernel)
theorem kw_83 : Cond.fieldLink "SecretRows" 23 "SecretRows" "tokens" "[LSecretRows$Token;" ∈ gW := kw_t (i := 83) (by decide +kernel) (by decide +kernel)
theorem kw_84 : Cond.fieldLink "SecretRows" 30 "SecretRows" "readings" "LSecretRows$Audit;" ∈ gW := kw_t (i := 84) (by decide +kernel) (by decide +kernel)
theorem kw_85 : Cond.fieldLink "SecretRows" 39 "SecretRows" "tape" "LSecretRows$Text;" ∈ gW := kw_t (i := 85) (by decide +kernel) (by decide +kernel)
theorem kw_86 : Cond.fieldLink "SecretRows" 46 "SecretRows" "forms" "LSecretRows$Forms;" ∈ gW := kw_t (i := 86) (by decide +kernel) (by decide +kernel)
theorem kw_87 : Cond.fieldLink "SecretRows" 60 "SecretRows" "secretCount" "I" ∈ gW := kw_t (i := 87) (by decide +kernel) (by decide +kernel)
theorem kw_88 : Cond.fieldLink "SecretRows" 93 "SecretRows" "stepCount" "I" ∈ gW := kw_t (i := 88) (by decide +kernel) (by decide +kernel)
theorem kw_89 : Cond.fieldLink "SecretRows" 161 "SecretRows" "tokenCount" "I" ∈ gW := kw_t (i := 89) (by decide +kernel) (by decide +kernel)
theorem kw_90 : Cond.fieldLink "SecretRows" 198 "SecretRows" "valueCount" "I" ∈ gW := kw_t (i := 90) (by decide +kernel) (by decide +kernel)
theorem kw_91 : Cond.fieldLink "SecretRows" 86 "SecretRows" "clock" "I" ∈ gW := kw_t (i := 91) (by decide +kernel) (by decide +kernel)
theorem kw_92 : Cond.fieldLink "SecretRows" 50 "SecretRows" "leakSecret" "I" ∈ gW := kw_t (i := 92) (by decide +kernel) (by decide +kernel)
theorem kw_93 : Cond.fieldLink "SecretRows" 54 "SecretRows" "leakForm" "I" ∈ gW := kw_t (i := 93) (by decide +kernel) (by decide +kernel)
theorem kw_94 : Cond.fieldLink "SecretRows" 57 "SecretRows" "leakOld" "I" ∈ gW := kw_t (i := 94) (by decide +kernel) (by decide +kernel)
theorem kw_95 : Cond.laysFinal "SecretRows" "SecretRows" "secrets" "[LSecretRows$Secret;" ∈ gW := kw_t (i := 95) (by decide +kernel) (by decide +kernel)
theorem kw_97 : Cond.laysFinal "SecretRows" "SecretRows" "steps" "[LSecretRows$Step;" ∈ gW := kw_t (i := 97) (by decide +kernel) (by decide +kernel)
theorem kw_99 : Cond.laysFinal "SecretRows" "SecretRows" "tokens" "[LSecretRows$Token;" ∈ gW := kw_t (i := 99) (by decide +kernel) (by decide +kernel)
theorem kw_101 : Cond.laysFinal "SecretRows" "SecretRows" "readings" "LSecretRows$Audit;" ∈ gW := kw_t (i := 101) (by decide +kernel) (by decide +kernel)
theorem kw_103 : Cond.laysFinal "SecretRows" "SecretRows" "tape" "LSecretRows$Text;" ∈ gW := kw_t (i := 103) (by decide +kernel) (by decide +kernel)
theorem kw_105 : Cond.laysFinal "SecretRows" "SecretRows" "forms" "LSecretRows$Forms;" ∈ gW := kw_t (i := 105) (by decide +kernel) (by decide +kernel)
theorem kw_107 : Cond.lays "SecretRows" "SecretRows" "secretCount" "I" ∈ gW := kw_t (i := 107) (by decide +kernel) (by decide +kernel)
theorem kw_109 : Cond.lays "SecretRows" "SecretRows" "stepCount" "I" ∈ gW := kw_t (i := 109) (by decide +kernel) (by decide +kernel)
theorem kw_111 : Cond.lays "SecretRows" "SecretRows" "tokenCount" "I" ∈ gW := kw_t (i := 111) (by decide +kernel) (by decide +kernel)
theorem kw_113 : Cond.lays "SecretRows" "SecretRows" "valueCount" "I" ∈ gW := kw_t (i := 113) (by decide +kernel) (by decide +kernel)
theorem kw_115 : Cond.lays "SecretRows" "SecretRows" "clock" "I" ∈ gW := kw_t (i := 115) (by decide +kernel) (by decide +kernel)
theorem kw_117 : Cond.lays "SecretRows" "SecretRows" "leakSecret" "I" ∈ gW := kw_t (i := 117) (by decide +kernel) (by decide +kernel)
theorem kw_119 : Cond.lays "SecretRows" "SecretRows" "leakForm" "I" ∈ gW := kw_t (i := 119) (by decide +kernel) (by decide +kernel)
theorem kw_121 : Cond.lays "SecretRows" "SecretRows" "leakOld" "I" ∈ gW := kw_t (i := 121) (by decide +kernel) (by decide +kernel)
set_option maxRecDepth 100000 in
theorem kw_127 : (Cond.code ⟨"SecretRows", "secret", "(III)I"⟩ prog_1_method_2_code 4 (Option.some FieldType.int)) ∈ gW := kw_t (i := 127) rfl rfl
theorem kw_128 : Cond.instantiable "SecretRows$Secret" 7 ∈ gW := kw_t (i := 128) (by decide +kernel) (by decide +kernel)
theorem kw_129 : Cond.methodLink "SecretRows" 63 ⟨"SecretRows$Secret", "<init>", "(III)V"⟩ ∈ gW := kw_t (i := 129) (by decide +kernel) (by decide +kernel)
theorem kw_130 : Cond.instanceMethod ⟨"SecretRows$Secret", "<init>", "(III)V"⟩ ∈ gW := kw_t (i := 130) (by decide +kernel) (by decide +kernel)
set_option maxRecDepth 100000 in
theorem kw_131 : (Cond.code ⟨"SecretRows$Secret", "<init>", "(III)V"⟩ prog_5_method_1_code 4 (Option.none : Option FieldType)) ∈ gW := kw_t (i := 131) rfl rfl
theorem kw_132 : Cond.methodLink "SecretRows$Secret" 1 ⟨"java/lang/Object", "<init>", "()V"⟩ ∈ gW := kw_t (i := 132) (by decide +kernel) (by decide +kernel)
theorem kw_133 : Cond.fieldLink "SecretRows$Secret" 7 "SecretRows$Secret" "environments" "I" ∈ gW := kw_t (i := 133) (by decide +kernel) (by decide +kernel)
theorem kw_134 : Cond.fieldLink "SecretRows$Secret" 13 "SecretRows$Secret" "branches" "I" ∈ gW := kw_t (i := 134) (by decide +kernel) (by decide +kernel)
theorem kw_135 : Cond.fieldLink "SecretRows$Secret" 16 "SecretRows$Secret" "jobs" "I" ∈ gW := kw_t (i := 135) (by decide +kernel) (by decide +kernel)
theorem kw_136 : Cond.fieldLink "SecretRows$Secret" 19 "SecretRows$Secret" "value" "LSecretRows$Value;" ∈ gW := kw_t (i := 136) (by decide +kernel) (by decide +kernel)
theorem kw_137 : Cond.fieldLinkNest "SecretRows" 226 "SecretRows$Secret" "value" "LSecretRows$Value;" "SecretRows" ∈ gNN := kn_t (i := 137) (by decide +kernel) (by decide +kernel)
theorem kw_138 : Cond.fieldLink "SecretRows$Secret" 23 "SecretRows$Secret" "old" "LSecretRows$Value;" ∈ gW := kw_t (i := 138) (by decide +kernel) (by decide +kernel)
theorem kw_139 : Cond.fieldLinkNest "SecretRows" 232 "SecretRows$Secret" "old" "LSecretRows$Value;" "SecretRows" ∈ gNN := kn_t (i := 139) (by decide +kernel) (by decide +kernel)
theorem kw_140 : Cond.fieldLink "SecretRows$Secret" 26 "SecretRows$Secret" "oldEnd" "I" ∈ gW := kw_t (i := 140) (by decide +kernel) (by decide +kernel)
theorem kw_141 : Cond.fieldLinkNest "SecretRows" 235 "SecretRows$Secret" "oldEnd" "I" "SecretRows" ∈ gNN := kn_t (i := 141) (by decide +kernel) (by decide +kernel)
theorem kw_142 : Cond.fieldLinkNest "SecretRows" 81 "SecretRows$Secret" "revoked" "Z" "SecretRows" ∈ gNN := kn_t (i := 142) (by decide +kernel) (by decide +kernel)
theorem kw_143 : Cond.laysFinal "SecretRows$Secret" "SecretRows$Secret" "environments" "I" ∈ gW := kw_t (i := 143) (by decide +kernel) (by decide +kernel)
theorem kw_145 : Cond.laysFinal "SecretRows$Secret" "SecretRows$Secret" "branches" "I" ∈ gW := kw_t (i := 145) (by decide +kernel) (by decide +kernel)
theorem kw_147 : Cond.laysFinal "SecretRows$Secret" "SecretRows$Secret" "jobs" "I" ∈ gW := kw_t (i := 147) (by decide +kernel) (by decide +kernel)
theorem kw_149 : Cond.lays "SecretRows$Secret" "SecretRows$Secret" "value" "LSecretRows$Value;" ∈ gW := kw_t (i := 149) (by decide +kernel) (by decide +kernel)
theorem kw_151 : Cond.lays "SecretRows$Secret" "SecretRows$Secret" "old" "LSecretRows$Value;" ∈ gW := kw_t (i := 151) (by decide +kernel) (by decide +kernel)
theorem kw_153 : Cond.lays "SecretRows$Secret" "SecretRows$Secret" "oldEnd" "I" ∈ gW := kw_t (i := 153) (by decide +kernel) (by decide +kernel)
theorem kw_155 : Cond.lays "SecretRows$Secret" "SecretRows$Secret" "revoked" "Z" ∈ gW := kw_t (i := 155) (by decide +kernel) (by decide +kernel)
set_option maxRecDepth 100000 in
theorem kw_161 : (Cond.code ⟨"SecretRows", "type", "(C)Z"⟩ prog_1_method_3_code 2 (Option.some FieldType.boolean)) ∈ gW := kw_t (i := 161) rfl rfl
theorem kw_162 : Cond.methodLink "SecretRows" 66 ⟨"SecretRows$Text", "add", "(I)Z"⟩ ∈ gW := kw_t (i := 162) (by decide +kernel) (by decide +kernel)
theorem kw_163 : Cond.instanceMethod ⟨"SecretRows$Text", "add", "(I)Z"⟩ ∈ gW := kw_t (i := 163) (by decide +kernel) (by decide +kernel)
theorem kw_164 : Cond.selects "SecretRows$Text" ⟨"SecretRows$Text", "add", "(I)Z"⟩ ⟨"SecretRows$Text", "add", "(I)Z"⟩ ∈ gW := kw_t (i := 164) (by decide +kernel) (by decide +kernel)
set_option maxRecDepth 100000 in
theorem kw_165 : (Cond.code ⟨"SecretRows$Text", "add", "(I)Z"⟩ prog_7_method_4_code 2 (Option.some FieldType.boolean)) ∈ gW := kw_t (i := 165) rfl rfl
set_option maxRecDepth 100000 in
theorem kw_169 : (Cond.code ⟨"SecretRows", "set", "(II)I"⟩ prog_1_method_4_code 4 (Option.some FieldType.int)) ∈ gW := kw_t (i := 169) rfl rfl
theorem kw_170 : Cond.methodLink "SecretRows" 70 ⟨"SecretRows", "findSecret", "(I)LSecretRows$Secret;"⟩ ∈ gW := kw_t (i := 170) (by decide +kernel) (by decide +kernel)
theorem kw_172 : Cond.instanceMethod ⟨"SecretRows", "findSecret", "(I)LSecretRows$Secret;"⟩ ∈ gW := kw_t (i := 172) (by decide +kernel) (by decide +kernel)
set_option maxRecDepth 100000 in
theorem kw_173 : (Cond.code ⟨"SecretRows", "findSecret", "(I)LSecretRows$Secret;"⟩ prog_1_method_20_code 2 (Option.some (FieldType.object "SecretRows$Secret"))) ∈ gW := kw_t (i := 173) rfl rfl
theorem kw_174 : Cond.methodLink "SecretRows" 74 ⟨"SecretRows", "setFromTape", "(LSecretRows$Secret;I)I"⟩ ∈ gW := kw_t (i := 174) (by decide +kernel) (by decide +kernel)
theorem kw_176 : Cond.instanceMethod ⟨"SecretRows", "setFromTape", "(LSecretRows$Secret;I)I"⟩ ∈ gW := kw_t (i := 176) (by decide +kernel) (by decide +kernel)
set_option maxRecDepth 100000 in
theorem kw_177 : (Cond.code ⟨"SecretRows", "setFromTape", "(LSecretRows$Secret;I)I"⟩ prog_1_method_23_code 3 (Option.some FieldType.int)) ∈ gW := kw_t (i := 177) rfl rfl
theorem kw_178 : Cond.constant "SecretRows" 85 100000 ∈ gW := kw_t (i := 178) (by decide +kernel) (by decide +kernel)
theorem kw_179 : Cond.methodLink "SecretRows" 191 ⟨"SecretRows", "tapeCanBeValue", "()Z"⟩ ∈ gW := kw_t (i := 179) (by decide +kernel) (by decide +kernel)
theorem kw_181 : Cond.instanceMethod ⟨"SecretRows", "tapeCanBeValue", "()Z"⟩ ∈ gW := kw_t (i := 181) (by decide +kernel) (by decide +kernel)
set_option maxRecDepth 100000 in
theorem kw_182 : (Cond.code ⟨"SecretRows", "tapeCanBeValue", "()Z"⟩ prog_1_method_25_code 1 (Option.some FieldType.boolean)) ∈ gW := kw_t (i := 182) rfl rfl
theorem kw_183 : Cond.methodLink "SecretRows" 151 ⟨"SecretRows$Text", "length", "()I"⟩ ∈ gW := kw_t (i := 183) (by decide +kernel) (by decide +kernel)
theorem kw_184 : Cond.instanceMethod ⟨"SecretRows$Text", "length", "()I"⟩ ∈ gW := kw_t (i := 184) (by decide +kernel) (by decide +kernel)
theorem kw_185 : Cond.selects "SecretRows$Text" ⟨"SecretRows$Text", "length", "()I"⟩ ⟨"SecretRows$Text", "length", "()I"⟩ ∈ gW := kw_t (i := 185) (by decide +kernel) (by decide +kernel)
set_option maxRecDepth 100000 in
theorem kw_186 : (Cond.code ⟨"SecretRows$Text", "length", "()I"⟩ prog_7_method_2_code 1 (Option.some FieldType.int)) ∈ gW := kw_t (i := 186) rfl rfl
theorem kw_187 : Cond.methodLink "SecretRows" 215 ⟨"SecretRows$Text", "has", "(C)Z"⟩ ∈ gW := kw_t (i := 187) (by decide +kernel) (by decide +kernel)
theorem kw_188 : Cond.instanceMethod ⟨"SecretRows$Text", "has", "(C)Z"⟩ ∈ gW := kw_t (i := 188) (by decide +kernel) (by decide +kernel)
theorem kw_189 : Cond.selects "SecretRows$Text" ⟨"SecretRows$Text", "has", "(C)Z"⟩ ⟨"SecretRows$Text", "has", "(C)Z"⟩ ∈ gW := kw_t (i := 189) (by decide +kernel) (by decide +kernel)
set_option maxRecDepth 100000 in
theorem kw_190 : (Cond.code ⟨"SecretRows$Text", "has", "(C)Z"⟩ prog_7_method_7_code 3 (Option.some FieldType.boolean)) ∈ gW := kw_t (i := 190) rfl rfl
theorem kw_191 : Cond.methodLink "SecretRows$Text" 25 ⟨"SecretRows$Text", "at", "(I)I"⟩ ∈ gW := kw_t (i := 191) (by decide +kernel) (by decide +kernel)
theorem kw_192 : Cond.instanceMethod ⟨"SecretRows$Text", "at", "(I)I"⟩ ∈ gW := kw_t (i := 192) (by decide +kernel) (by decide +kernel)
theorem kw_193 : Cond.selects "SecretRows$Text" ⟨"SecretRows$Text", "at", "(I)I"⟩ ⟨"SecretRows$Text", "at", "(I)I"⟩ ∈ gW := kw_t (i := 193) (by decide +kernel) (by decide +kernel)
set_option maxRecDepth 100000 in
theorem kw_194 : (Cond.code ⟨"SecretRows$Text", "at", "(I)I"⟩ prog_7_method_3_code 2 (Option.some FieldType.int)) ∈ gW := kw_t (i := 194) rfl rfl
theorem kw_195 : Cond.methodLink "SecretRows" 195 ⟨"SecretRows", "tapeIsHad", "()Z"⟩ ∈ gW := kw_t (i := 195) (by decide +kernel) (by decide +kernel)
theorem kw_197 : Cond.instanceMethod ⟨"SecretRows", "tapeIsHad", "()Z"⟩ ∈ gW := kw_t (i := 197) (by decide +kernel) (by decide +kernel)
set_option maxRecDepth 100000 in
theorem kw_198 : (Cond.code ⟨"SecretRows", "tapeIsHad", "()Z"⟩ prog_1_method_26_code 3 (Option.some FieldType.boolean)) ∈ gW := kw_t (i := 198) rfl rfl
theorem kw_199 : Cond.methodLink "SecretRows" 219 ⟨"SecretRows$Secret", "has", "(LSecretRows$Text;)Z"⟩ ∈ gW := kw_t (i := 199) (by decide +kernel) (by decide +kernel)
theorem kw_200 : Cond.instanceMethod ⟨"SecretRows$Secret", "has", "(LSecretRows$Text;)Z"⟩ ∈ gW := kw_t (i := 200) (by decide +kernel) (by decide +kernel)
theorem kw_201 : Cond.selects "SecretRows$Secret" ⟨"SecretRows$Secret", "has", "(LSecretRows$Text;)Z"⟩ ⟨"SecretRows$Secret", "has", "(LSecretRows$Text;)Z"⟩ ∈ gW := kw_t (i := 201) (by decide +kernel) (by decide +kernel)
set_option maxRecDepth 100000 in
theorem kw_202 : (Cond.code ⟨"SecretRows$Secret", "has", "(LSecretRows$Text;)Z"⟩ prog_5_method_4_code 2 (Option.some FieldType.boolean)) ∈ gW := kw_t (i := 202) rfl rfl
theorem kw_203 : Cond.methodLink "SecretRows$Secret" 35 ⟨"SecretRows$Text", "isLike", "(LSecretRows$Text;)Z"⟩ ∈ gW := kw_t (i := 203) (by decide +kernel) (by decide +kernel)
theorem kw_204 : Cond.instanceMethod ⟨"SecretRows$Text", "isLike", "(LSecretRows$Text;)Z"⟩ ∈ gW := kw_t (i := 204) (by decide +kernel) (by decide +kernel)
theorem kw_205 : Cond.selects "SecretRows$Text" ⟨"SecretRows$Text", "isLike", "(LSecretRows$Text;)Z"⟩ ⟨"SecretRows$Text", "isLike", "(LSecretRows$Text;)Z"⟩ ∈ gW := kw_t (i := 205) (by decide +kernel) (by decide +kernel)
set_option maxRecDepth 100000 in
theorem kw_206 : (Cond.code ⟨"SecretRows$Text", "isLike", "(LSecretRows$Text;)Z"⟩ prog_7_method_8_code 2 (Option.some FieldType.boolean)) ∈ gW := kw_t (i := 206) rfl rfl
theorem kw_207 : Cond.methodLink "SecretRows$Text" 33 ⟨"SecretRows$Text", "agrees", "(LSecretRows$Text;I)Z"⟩ ∈ gW := kw_t (i := 207) (by decide +kernel) (by decide +kernel)
theorem kw_208 : Cond.instanceMethod ⟨"SecretRows$Text", "agrees", "(LSecretRows$Text;I)Z"⟩ ∈ gW := kw_t (i := 208) (by decide +kernel) (by decide +kernel)
theorem kw_209 : Cond.selects "SecretRows$Text" ⟨"SecretRows$Text", "agrees", "(LSecretRows$Text;I)Z"⟩ ⟨"SecretRows$Text", "agrees", "(LSecretRows$Text;I)Z"⟩ ∈ gW := kw_t (i := 209) (by decide +kernel) (by decide +kernel)
set_option maxRecDepth 100000 in
theorem kw_210 : (Cond.code ⟨"SecretRows$Text", "agrees", "(LSecretRows$Text;I)Z"⟩ prog_7_method_9_code 5 (Option.some FieldType.boolean)) ∈ gW := kw_t (i := 210) rfl rfl
theorem kw_211 : Cond.methodLink "SecretRows$Text" 37 ⟨"java/lang/Math", "min", "(II)I"⟩ ∈ gW := kw_t (i := 211) (by decide +kernel) (by decide +kernel)
theorem kw_212 : Cond.static ⟨"java/lang/Math", "min", "(II)I"⟩ ∈ gW := kw_t (i := 212) (by decide +kernel) (by decide +kernel)
set_option maxRecDepth 100000 in
theorem kw_213 : (Cond.code ⟨"java/lang/Math", "min", "(II)I"⟩ Lib.Math.min.code 2 (Option.some FieldType.int)) ∈ gW := kw_t (i := 213) rfl rfl
theorem kw_214 : Cond.classLink "SecretRows" 117 "SecretRows$Value" ∈ gW := kw_t (i := 214) (by decide +kernel) (by decide +kernel)
theorem kw_215 : Cond.instantiable "SecretRows$Value" 4 ∈ gW := kw_t (i := 215) (by decide +kernel) (by decide +kernel)
theorem kw_216 : Cond.methodLink "SecretRows" 201 ⟨"SecretRows$Value", "<init>", "(ILSecretRows$Text;)V"⟩ ∈ gW := kw_t (i := 216) (by decide +kernel) (by decide +kernel)
theorem kw_217 : Cond.instanceMethod ⟨"SecretRows$Value", "<init>", "(ILSecretRows$Text;)V"⟩ ∈ gW := kw_t (i := 217) (by decide +kernel) (by decide +kernel)
set_option maxRecDepth 100000 in
theorem kw_218 : (Cond.code ⟨"SecretRows$Value", "<init>", "(ILSecretRows$Text;)V"⟩ prog_9_method_1_code 3 (Option.none : Option FieldType)) ∈ gW := kw_t (i := 218) rfl rfl
theorem kw_219 : Cond.methodLink "SecretRows$Value" 1 ⟨"java/lang/Object", "<init>", "()V"⟩ ∈ gW := kw_t (i := 219) (by decide +kernel) (by decide +kernel)
theorem kw_220 : Cond.classLink "SecretRows$Value" 13 "SecretRows$Text" ∈ gW := kw_t (i := 220) (by decide +kernel) (by decide +kernel)
theorem kw_221 : Cond.methodLink "SecretRows$Value" 15 ⟨"SecretRows$Text", "length", "()I"⟩ ∈ gW := kw_t (i := 221) (by decide +kernel) (by decide +kernel)
theorem kw_222 : Cond.methodLink "SecretRows$Value" 19 ⟨"SecretRows$Text", "<init>", "(I)V"⟩ ∈ gW := kw_t (i := 222) (by decide +kernel) (by decide +kernel)
theorem kw_223 : Cond.methodLink "SecretRows$Value" 26 ⟨"SecretRows$Text", "addAll", "(LSecretRows$Text;)V"⟩ ∈ gW := kw_t (i := 223) (by decide +kernel) (by decide +kernel)
theorem kw_224 : Cond.instanceMethod ⟨"SecretRows$Text", "addAll", "(LSecretRows$Text;)V"⟩ ∈ gW := kw_t (i := 224) (by decide +kernel) (by decide +kernel)
theorem kw_225 : Cond.selects "SecretRows$Text" ⟨"SecretRows$Text", "addAll", "(LSecretRows$Text;)V"⟩ ⟨"SecretRows$Text", "addAll", "(LSecretRows$Text;)V"⟩ ∈ gW := kw_t (i := 225) (by decide +kernel) (by decide +kernel)
set_option maxRecDepth 100000 in
theorem kw_226 : (Cond.code ⟨"SecretRows$Text", "addAll", "(LSecretRows$Text;)V"⟩ prog_7_method_5_code 3 (Option.none : Option FieldType)) ∈ gW := kw_t (i := 226) rfl rfl
theorem kw_227 : Cond.methodLink "SecretRows$Text" 29 ⟨"SecretRows$Text", "add", "(I)Z"⟩ ∈ gW := kw_t (i := 227) (by decide +kernel) (by decide +kernel)
theorem kw_228 : Cond.methodLink "SecretRows$Value" 30 ⟨"SecretRows$Value", "turned", "(LSecretRows$Text;)LSecretRows$Text;"⟩ ∈ gW := kw_t (i := 228) (by decide +kernel) (by decide +kernel)
theorem kw_229 : Cond.static ⟨"SecretRows$Value", "turned", "(LSecretRows$Text;)LSecretRows$Text;"⟩ ∈ gW := kw_t (i := 229) (by decide +kernel) (by decide +kernel)
set_option maxRecDepth 100000 in
theorem kw_230 : (Cond.code ⟨"SecretRows$Value", "turned", "(LSecretRows$Text;)LSecretRows$Text;"⟩ prog_9_method_2_code 3 (Option.some (FieldType.object "SecretRows$Text"))) ∈ gW := kw_t (i := 230) rfl rfl
theorem kw_231 : Cond.methodLink "SecretRows$Value" 43 ⟨"SecretRows$Text", "at", "(I)I"⟩ ∈ gW := kw_t (i := 231) (by decide +kernel) (by decide +kernel)
theorem kw_232 : Cond.methodLink "SecretRows$Value" 47 ⟨"SecretRows$Text", "add", "(I)Z"⟩ ∈ gW := kw_t (i := 232) (by decide +kernel) (by decide +kernel)
theorem kw_233 : Cond.methodLink "SecretRows$Value" 37 ⟨"SecretRows$Value", "codesOf", "(LSecretRows$Text;)LSecretRows$Text;"⟩ ∈ gW := kw_t (i := 233) (by decide +kernel) (by decide +kernel)
theorem kw_234 : Cond.static ⟨"SecretRows$Value", "codesOf", "(LSecretRows$Text;)LSecretRows$Text;"⟩ ∈ gW := kw_t (i := 234) (by decide +kernel) (by decide +kernel)
set_option maxRecDepth 100000 in
theorem kw_235 : (Cond.code ⟨"SecretRows$Value", "codesOf", "(LSecretRows$Text;)LSecretRows$Text;"⟩ prog_9_method_3_code 3 (Option.some (FieldType.object "SecretRows$Text"))) ∈ gW := kw_t (i := 235) rfl rfl
theorem kw_236 : Cond.methodLink "SecretRows$Value" 51 ⟨"SecretRows$Value", "digit", "(I)I"⟩ ∈ gW := kw_t (i := 236) (by decide +kernel) (by decide +kernel)
theorem kw_237 : Cond.static ⟨"SecretRows$Value", "digit", "(I)I"⟩ ∈ gW := kw_t (i := 237) (by decide +kernel) (by decide +kernel)
set_option maxRecDepth 100000 in
theorem kw_238 : (Cond.code ⟨"SecretRows$Value", "digit", "(I)I"⟩ prog_9_method_4_code 1 (Option.some FieldType.int)) ∈ gW := kw_t (i := 238) rfl rfl
theorem kw_239 : Cond.fieldLink "SecretRows$Value" 7 "SecretRows$Value" "number" "I" ∈ gW := kw_t (i := 239) (by decide +kernel) (by decide +kernel)
theorem kw_240 : Cond.fieldLinkNest "SecretRows$Secret" 41 "SecretRows$Value" "number" "I" "SecretRows" ∈ gNN := kn_t (i := 240) (by decide +kernel) (by decide +kernel)
theorem kw_241 : Cond.fieldLink "SecretRows$Value" 22 "SecretRows$Value" "text" "LSecretRows$Text;" ∈ gW := kw_t (i := 241) (by decide +kernel) (by decide +kernel)
theorem kw_242 : Cond.fieldLinkNest "SecretRows$Forms" 31 "SecretRows$Value" "text" "LSecretRows$Text;" "SecretRows" ∈ gNN := kn_t (i := 242) (by decide +kernel) (by decide +kernel)
theorem kw_243 : Cond.fieldLinkNest "SecretRows$Secret" 29 "SecretRows$Value" "text" "LSecretRows$Text;" "SecretRows" ∈ gNN := kn_t (i := 243) (by decide +kernel) (by decide +kernel)
theorem kw_244 : Cond.fieldLinkNest "SecretRows" 116 "SecretRows$Value" "text" "LSecretRows$Text;" "SecretRows" ∈ gNN := kn_t (i := 244) (by decide +kernel) (by decide +kernel)
theorem kw_245 : Cond.fieldLink "SecretRows$Value" 34 "SecretRows$Value" "fromTheEnd" "LSecretRows$Text;" ∈ gW := kw_t (i := 245) (by decide +kernel) (by decide +kernel)
theorem kw_246 : Cond.fieldLinkNest "SecretRows$Forms" 41 "SecretRows$Value" "fromTheEnd" "LSecretRows$Text;" "SecretRows" ∈ gNN := kn_t (i := 246) (by decide +kernel) (by decide +kernel)
theorem kw_247 : Cond.fieldLink "SecretRows$Value" 40 "SecretRows$Value" "byCodes" "LSecretRows$Text;" ∈ gW := kw_t (i := 247) (by decide +kernel) (by decide +kernel)
theorem kw_248 : Cond.fieldLinkNest "SecretRows$Forms" 44 "SecretRows$Value" "byCodes" "LSecretRows$Text;" "SecretRows" ∈ gNN := kn_t (i := 248) (by decide +kernel) (by decide +kernel)
theorem kw_249 : Cond.laysFinal "SecretRows$Value" "SecretRows$Value" "number" "I" ∈ gW := kw_t (i := 249) (by decide +kernel) (by decide +kernel)
theorem kw_251 : Cond.laysFinal "SecretRows$Value" "SecretRows$Value" "text" "LSecretRows$Text;" ∈ gW := kw_t (i := 251) (by decide +kernel) (by decide +kernel)
theorem kw_253 : Cond.laysFinal "SecretRows$Value" "SecretRows$Value" "fromTheEnd" "LSecretRows$Text;" ∈ gW := kw_t (i := 253) (by decide +kernel) (by decide +kernel)
theorem kw_255 : Cond.laysFinal "SecretRows$Value" "SecretRows$Value" "byCodes" "LSecretRows$Text;" ∈ gW := kw_t (i := 255) (by decide +kernel) (by decide +kernel)
theorem kw_258 : Cond.methodLink "SecretRows" 204 ⟨"SecretRows$Secret", "rotate", "(LSecretRows$Value;I)V"⟩ ∈ gW := kw_t (i := 258) (by decide +kernel) (by decide +kernel)
theorem kw_259 : Cond.instanceMethod ⟨"SecretRows$Secret", "rotate", "(LSecretRows$Value;I)V"⟩ ∈ gW := kw_t (i := 259) (by decide +kernel) (by decide +kernel)
theorem kw_260 : Cond.selects "SecretRows$Secret" ⟨"SecretRows$Secret", "rotate", "(LSecretRows$Value;I)V"⟩ ⟨"SecretRows$Secret", "rotate", "(LSecretRows$Value;I)V"⟩ ∈ gW := kw_t (i := 260) (by decide +kernel) (by decide +kernel)
set_option maxRecDepth 100000 in
theorem kw_261 : (Cond.code ⟨"SecretRows$Secret", "rotate", "(LSecretRows$Value;I)V"⟩ prog_5_method_3_code 3 (Option.none : Option FieldType)) ∈ gW := kw_t (i := 261) rfl rfl
theorem kw_262 : Cond.methodLink "SecretRows" 78 ⟨"SecretRows$Text", "clear", "()V"⟩ ∈ gW := kw_t (i := 262) (by decide +kernel) (by decide +kernel)
theorem kw_263 : Cond.instanceMethod ⟨"SecretRows$Text", "clear", "()V"⟩ ∈ gW := kw_t (i := 263) (by decide +kernel) (by decide +kernel)
theorem kw_264 : Cond.selects "SecretRows$Text" ⟨"SecretRows$Text", "clear", "()V"⟩ ⟨"SecretRows$Text", "clear", "()V"⟩ ∈ gW := kw_t (i := 264) (by decide +kernel) (by decide +kernel)
set_option maxRecDepth 100000 in
theorem kw_265 : (Cond.code ⟨"SecretRows$Text", "clear", "()V"⟩ prog_7_method_6_code 1 (Option.none : Option FieldType)) ∈ gW := kw_t (i := 265) rfl rfl
set_option maxRecDepth 100000 in
theorem kw_269 : (Cond.code ⟨"SecretRows", "revoke", "(I)Z"⟩ prog_1_method_5_code 3 (Option.some FieldType.boolean)) ∈ gW := kw_t (i := 269) rfl rfl
set_option maxRecDepth 100000 in
theorem kw_273 : (Cond.code ⟨"SecretRows", "tick", "(I)I"⟩ prog_1_method_6_code 2 (Option.some FieldType.int)) ∈ gW := kw_t (i := 273) rfl rfl
theorem kw_274 : Cond.constant "SecretRows" 89 1000000000 ∈ gW := kw_t (i := 274) (by decide +kernel) (by decide +kernel)
set_option maxRecDepth 100000 in
theorem kw_278 : (Cond.code ⟨"SecretRows", "step", "(IIIZ)I"⟩ prog_1_method_7_code 6 (Option.some FieldType.int)) ∈ gW := kw_t (i := 278) rfl rfl
theorem kw_279 : Cond.methodLink "SecretRows" 90 ⟨"SecretRows", "isBit", "(I)Z"⟩ ∈ gW := kw_t (i := 279) (by decide +kernel) (by decide +kernel)
theorem kw_280 : Cond.static ⟨"SecretRows", "isBit", "(I)Z"⟩ ∈ gW := kw_t (i := 280) (by decide +kernel) (by decide +kernel)
set_option maxRecDepth 100000 in
theorem kw_281 : (Cond.code ⟨"SecretRows", "isBit", "(I)Z"⟩ prog_1_method_19_code 1 (Option.some FieldType.boolean)) ∈ gW := kw_t (i := 281) rfl rfl
theorem kw_282 : Cond.instantiable "SecretRows$Step" 2 ∈ gW := kw_t (i := 282) (by decide +kernel) (by decide +kernel)
theorem kw_283 : Cond.methodLink "SecretRows" 96 ⟨"SecretRows$Step", "<init>", "()V"⟩ ∈ gW := kw_t (i := 283) (by decide +kernel) (by decide +kernel)
theorem kw_284 : Cond.instanceMethod ⟨"SecretRows$Step", "<init>", "()V"⟩ ∈ gW := kw_t (i := 284) (by decide +kernel) (by decide +kernel)
set_option maxRecDepth 100000 in
theorem kw_285 : (Cond.code ⟨"SecretRows$Step", "<init>", "()V"⟩ prog_6_method_1_code 1 (Option.none : Option FieldType)) ∈ gW := kw_t (i := 285) rfl rfl
theorem kw_286 : Cond.methodLink "SecretRows$Step" 3 ⟨"java/lang/Object", "<init>", "()V"⟩ ∈ gW := kw_t (i := 286) (by decide +kernel) (by decide +kernel)
theorem kw_287 : Cond.classLink "SecretRows$Step" 9 "SecretRows$Value" ∈ gW := kw_t (i := 287) (by decide +kernel) (by decide +kernel)
theorem kw_289 : Cond.classLink "SecretRows$Step" 17 "SecretRows$Log" ∈ gW := kw_t (i := 289) (by decide +kernel) (by decide +kernel)
theorem kw_290 : Cond.instantiable "SecretRows$Log" 5 ∈ gW := kw_t (i := 290) (by decide +kernel) (by decide +kernel)
theorem kw_291 : Cond.methodLink "SecretRows$Step" 19 ⟨"SecretRows$Log", "<init>", "()V"⟩ ∈ gW := kw_t (i := 291) (by decide +kernel) (by decide +kernel)
theorem kw_292 : Cond.instanceMethod ⟨"SecretRows$Log", "<init>", "()V"⟩ ∈ gW := kw_t (i := 292) (by decide +kernel) (by decide +kernel)
set_option maxRecDepth 100000 in
theorem kw_293 : (Cond.code ⟨"SecretRows$Log", "<init>", "()V"⟩ prog_4_method_1_code 1 (Option.none : Option FieldType)) ∈ gW := kw_t (i := 293) rfl rfl
theorem kw_294 : Cond.methodLink "SecretRows$Log" 3 ⟨"java/lang/Object", "<init>", "()V"⟩ ∈ gW := kw_t (i := 294) (by decide +kernel) (by decide +kernel)
theorem kw_295 : Cond.classLink "SecretRows$Log" 9 "SecretRows$Text" ∈ gW := kw_t (i := 295) (by decide +kernel) (by decide +kernel)
theorem kw_296 : Cond.methodLink "SecretRows$Log" 11 ⟨"SecretRows$Text", "<init>", "(I)V"⟩ ∈ gW := kw_t (i := 296) (by decide +kernel) (by decide +kernel)
theorem kw_297 : Cond.fieldLink "SecretRows$Log" 14 "SecretRows$Log" "came" "LSecretRows$Text;" ∈ gW := kw_t (i := 297) (by decide +kernel) (by decide +kernel)
theorem kw_298 : Cond.fieldLink "SecretRows$Log" 20 "SecretRows$Log" "told" "LSecretRows$Text;" ∈ gW := kw_t (i := 298) (by decide +kernel) (by decide +kernel)
theorem kw_299 : Cond.fieldLinkNest "SecretRows" 148 "SecretRows$Log" "told" "LSecretRows$Text;" "SecretRows" ∈ gNN := kn_t (i := 299) (by decide +kernel) (by decide +kernel)
theorem kw_300 : Cond.fieldLink "SecretRows$Log" 31 "SecretRows$Log" "done" "I" ∈ gW := kw_t (i := 300) (by decide +kernel) (by decide +kernel)
theorem kw_301 : Cond.fieldLink "SecretRows$Log" 67 "SecretRows$Log" "covered" "I" ∈ gW := kw_t (i := 301) (by decide +kernel) (by decide +kernel)
theorem kw_302 : Cond.fieldLinkNest "SecretRows" 158 "SecretRows$Log" "covered" "I" "SecretRows" ∈ gNN := kn_t (i := 302) (by decide +kernel) (by decide +kernel)
theorem kw_303 : Cond.fieldLink "SecretRows$Log" 23 "SecretRows$Log" "closed" "Z" ∈ gW := kw_t (i := 303) (by decide +kernel) (by decide +kernel)
theorem kw_304 : Cond.fieldLinkNest "SecretRows" 136 "SecretRows$Log" "closed" "Z" "SecretRows" ∈ gNN := kn_t (i := 304) (by decide +kernel) (by decide +kernel)
theorem kw_305 : Cond.laysFinal "SecretRows$Log" "SecretRows$Log" "came" "LSecretRows$Text;" ∈ gW := kw_t (i := 305) (by decide +kernel) (by decide +kernel)
theorem kw_307 : Cond.laysFinal "SecretRows$Log" "SecretRows$Log" "told" "LSecretRows$Text;" ∈ gW := kw_t (i := 307) (by decide +kernel) (by decide +kernel)
theorem kw_309 : Cond.lays "SecretRows$Log" "SecretRows$Log" "done" "I" ∈ gW := kw_t (i := 309) (by decide +kernel) (by decide +kernel)
theorem kw_311 : Cond.lays "SecretRows$Log" "SecretRows$Log" "covered" "I" ∈ gW := kw_t (i := 311) (by decide +kernel) (by decide +kernel)
theorem kw_313 : Cond.lays "SecretRows$Log" "SecretRows$Log" "closed" "Z" ∈ gW := kw_t (i := 313) (by decide +kernel) (by decide +kernel)
theorem kw_316 : Cond.fieldLink "SecretRows$Step" 11 "SecretRows$Step" "kept" "[LSecretRows$Value;" ∈ gW := kw_t (i := 316) (by decide +kernel) (by decide +kernel)
theorem kw_317 : Cond.fieldLink "SecretRows$Step" 20 "SecretRows$Step" "log" "LSecretRows$Log;" ∈ gW := kw_t (i := 317) (by decide +kernel) (by decide +kernel)
theorem kw_318 : Cond.fieldLinkNest "SecretRows" 132 "SecretRows$Step" "log" "LSecretRows$Log;" "SecretRows" ∈ gNN := kn_t (i := 318) (by decide +kernel) (by decide +kernel)
theorem kw_319 : Cond.laysFinal "SecretRows$Step" "SecretRows$Step" "kept" "[LSecretRows$Value;" ∈ gW := kw_t (i := 319) (by decide +kernel) (by decide +kernel)
theorem kw_321 : Cond.laysFinal "SecretRows$Step" "SecretRows$Step" "log" "LSecretRows$Log;" ∈ gW := kw_t (i := 321) (by decide +kernel) (by decide +kernel)
theorem kw_324 : Cond.methodLink "SecretRows" 97 ⟨"SecretRows", "keepSeen", "(LSecretRows$Step;III)V"⟩ ∈ gW := kw_t (i := 324) (by decide +kernel) (by decide +kernel)
theorem kw_326 : Cond.instanceMethod ⟨"SecretRows", "keepSeen", "(LSecretRows$Step;III)V"⟩ ∈ gW := kw_t (i := 326) (by decide +kernel) (by decide +kernel)
set_option maxRecDepth 100000 in
theorem kw_327 : (Cond.code ⟨"SecretRows", "keepSeen", "(LSecretRows$Step;III)V"⟩ prog_1_method_27_code 7 (Option.none : Option FieldType)) ∈ gW := kw_t (i := 327) rfl rfl
theorem kw_328 : Cond.methodLink "SecretRows" 222 ⟨"SecretRows$Secret", "isFor", "(III)Z"⟩ ∈ gW := kw_t (i := 328) (by decide +kernel) (by decide +kernel)
theorem kw_329 : Cond.instanceMethod ⟨"SecretRows$Secret", "isFor", "(III)Z"⟩ ∈ gW := kw_t (i := 329) (by decide +kernel) (by decide +kernel)
theorem kw_330 : Cond.selects "SecretRows$Secret" ⟨"SecretRows$Secret", "isFor", "(III)Z"⟩ ⟨"SecretRows$Secret", "isFor", "(III)Z"⟩ ∈ gW := kw_t (i := 330) (by decide +kernel) (by decide +kernel)
set_option maxRecDepth 100000 in
theorem kw_331 : (Cond.code ⟨"SecretRows$Secret", "isFor", "(III)Z"⟩ prog_5_method_2_code 4 (Option.some FieldType.boolean)) ∈ gW := kw_t (i := 331) rfl rfl
theorem kw_332 : Cond.methodLink "SecretRows" 227 ⟨"SecretRows$Step", "keep", "(ILSecretRows$Value;)V"⟩ ∈ gW := kw_t (i := 332) (by decide +kernel) (by decide +kernel)
theorem kw_333 : Cond.instanceMethod ⟨"SecretRows$Step", "keep", "(ILSecretRows$Value;)V"⟩ ∈ gW := kw_t (i := 333) (by decide +kernel) (by decide +kernel)
theorem kw_334 : Cond.selects "SecretRows$Step" ⟨"SecretRows$Step", "keep", "(ILSecretRows$Value;)V"⟩ ⟨"SecretRows$Step", "keep", "(ILSecretRows$Value;)V"⟩ ∈ gW := kw_t (i := 334) (by decide +kernel) (by decide +kernel)
set_option maxRecDepth 100000 in
theorem kw_335 : (Cond.code ⟨"SecretRows$Step", "keep", "(ILSecretRows$Value;)V"⟩ prog_6_method_2_code 3 (Option.none : Option FieldType)) ∈ gW := kw_t (i := 335) rfl rfl
set_option maxRecDepth 100000 in
theorem kw_339 : (Cond.code ⟨"SecretRows", "sees", "(II)I"⟩ prog_1_method_8_code 4 (Option.some FieldType.int)) ∈ gW := kw_t (i := 339) rfl rfl
theorem kw_340 : Cond.methodLink "SecretRows" 101 ⟨"SecretRows", "findStep", "(I)LSecretRows$Step;"⟩ ∈ gW := kw_t (i := 340) (by decide +kernel) (by decide +kernel)
theorem kw_342 : Cond.instanceMethod ⟨"SecretRows", "findStep", "(I)LSecretRows$Step;"⟩ ∈ gW := kw_t (i := 342) (by decide +kernel) (by decide +kernel)
set_option maxRecDepth 100000 in
theorem kw_343 : (Cond.code ⟨"SecretRows", "findStep", "(I)LSecretRows$Step;"⟩ prog_1_method_21_code 2 (Option.some (FieldType.object "SecretRows$Step"))) ∈ gW := kw_t (i := 343) rfl rfl
theorem kw_344 : Cond.methodLink "SecretRows" 105 ⟨"SecretRows$Step", "seenAt", "(I)I"⟩ ∈ gW := kw_t (i := 344) (by decide +kernel) (by decide +kernel)
theorem kw_345 : Cond.instanceMethod ⟨"SecretRows$Step", "seenAt", "(I)I"⟩ ∈ gW := kw_t (i := 345) (by decide +kernel) (by decide +kernel)
theorem kw_346 : Cond.selects "SecretRows$Step" ⟨"SecretRows$Step", "seenAt", "(I)I"⟩ ⟨"SecretRows$Step", "seenAt", "(I)I"⟩ ∈ gW := kw_t (i := 346) (by decide +kernel) (by decide +kernel)
set_option maxRecDepth 100000 in
theorem kw_347 : (Cond.code ⟨"SecretRows$Step", "seenAt", "(I)I"⟩ prog_6_method_4_code 4 (Option.some FieldType.int)) ∈ gW := kw_t (i := 347) rfl rfl
set_option maxRecDepth 100000 in
theorem kw_351 : (Cond.code ⟨"SecretRows", "read", "(III)I"⟩ prog_1_method_9_code 5 (Option.some FieldType.int)) ∈ gW := kw_t (i := 351) rfl rfl
theorem kw_352 : Cond.methodLink "SecretRows" 109 ⟨"SecretRows", "keptValue", "(II)LSecretRows$Value;"⟩ ∈ gW := kw_t (i := 352) (by decide +kernel) (by decide +kernel)
theorem kw_354 : Cond.instanceMethod ⟨"SecretRows", "keptValue", "(II)LSecretRows$Value;"⟩ ∈ gW := kw_t (i := 354) (by decide +kernel) (by decide +kernel)
set_option maxRecDepth 100000 in
theorem kw_355 : (Cond.code ⟨"SecretRows", "keptValue", "(II)LSecretRows$Value;"⟩ prog_1_method_22_code 4 (Option.some (FieldType.object "SecretRows$Value"))) ∈ gW := kw_t (i := 355) rfl rfl
theorem kw_356 : Cond.methodLink "SecretRows" 187 ⟨"SecretRows$Step", "keptOf", "(I)LSecretRows$Value;"⟩ ∈ gW := kw_t (i := 356) (by decide +kernel) (by decide +kernel)
theorem kw_357 : Cond.instanceMethod ⟨"SecretRows$Step", "keptOf", "(I)LSecretRows$Value;"⟩ ∈ gW := kw_t (i := 357) (by decide +kernel) (by decide +kernel)
theorem kw_358 : Cond.selects "SecretRows$Step" ⟨"SecretRows$Step", "keptOf", "(I)LSecretRows$Value;"⟩ ⟨"SecretRows$Step", "keptOf", "(I)LSecretRows$Value;"⟩ ∈ gW := kw_t (i := 358) (by decide +kernel) (by decide +kernel)
set_option maxRecDepth 100000 in
theorem kw_359 : (Cond.code ⟨"SecretRows$Step", "keptOf", "(I)LSecretRows$Value;"⟩ prog_6_method_3_code 2 (Option.some (FieldType.object "SecretRows$Value"))) ∈ gW := kw_t (i := 359) rfl rfl
theorem kw_360 : Cond.methodLink "SecretRows" 113 ⟨"SecretRows$Audit", "tell", "(III)V"⟩ ∈ gW := kw_t (i := 360) (by decide +kernel) (by decide +kernel)
theorem kw_361 : Cond.instanceMethod ⟨"SecretRows$Audit", "tell", "(III)V"⟩ ∈ gW := kw_t (i := 361) (by decide +kernel) (by decide +kernel)
theorem kw_362 : Cond.selects "SecretRows$Audit" ⟨"SecretRows$Audit", "tell", "(III)V"⟩ ⟨"SecretRows$Audit", "tell", "(III)V"⟩ ∈ gW := kw_t (i := 362) (by decide +kernel) (by decide +kernel)
set_option maxRecDepth 100000 in
theorem kw_363 : (Cond.code ⟨"SecretRows$Audit", "tell", "(III)V"⟩ prog_2_method_2_code 5 (Option.none : Option FieldType)) ∈ gW := kw_t (i := 363) rfl rfl
theorem kw_364 : Cond.methodLink "SecretRows" 121 ⟨"SecretRows$Text", "at", "(I)I"⟩ ∈ gW := kw_t (i := 364) (by decide +kernel) (by decide +kernel)
set_option maxRecDepth 100000 in
theorem kw_368 : (Cond.code ⟨"SecretRows", "audit", "(II)I"⟩ prog_1_method_10_code 3 (Option.some FieldType.int)) ∈ gW := kw_t (i := 368) rfl rfl
theorem kw_369 : Cond.methodLink "SecretRows" 124 ⟨"SecretRows$Audit", "cell", "(II)I"⟩ ∈ gW := kw_t (i := 369) (by decide +kernel) (by decide +kernel)
theorem kw_370 : Cond.instanceMethod ⟨"SecretRows$Audit", "cell", "(II)I"⟩ ∈ gW := kw_t (i := 370) (by decide +kernel) (by decide +kernel)
theorem kw_371 : Cond.selects "SecretRows$Audit" ⟨"SecretRows$Audit", "cell", "(II)I"⟩ ⟨"SecretRows$Audit", "cell", "(II)I"⟩ ∈ gW := kw_t (i := 371) (by decide +kernel) (by decide +kernel)
set_option maxRecDepth 100000 in
theorem kw_372 : (Cond.code ⟨"SecretRows$Audit", "cell", "(II)I"⟩ prog_2_method_3_code 4 (Option.some FieldType.int)) ∈ gW := kw_t (i := 372) rfl rfl
set_option maxRecDepth 100000 in
theorem kw_376 : (Cond.code ⟨"SecretRows", "log", "(I)I"⟩ prog_1_method_11_code 3 (Option.some FieldType.int)) ∈ gW := kw_t (i := 376) rfl rfl
theorem kw_377 : Cond.methodLink "SecretRows" 128 ⟨"SecretRows", "logFromTape", "(LSecretRows$Step;)I"⟩ ∈ gW := kw_t (i := 377) (by decide +kernel) (by decide +kernel)
theorem kw_379 : Cond.instanceMethod ⟨"SecretRows", "logFromTape", "(LSecretRows$Step;)I"⟩ ∈ gW := kw_t (i := 379) (by decide +kernel) (by decide +kernel)
set_option maxRecDepth 100000 in
theorem kw_380 : (Cond.code ⟨"SecretRows", "logFromTape", "(LSecretRows$Step;)I"⟩ prog_1_method_24_code 2 (Option.some FieldType.int)) ∈ gW := kw_t (i := 380) rfl rfl
theorem kw_381 : Cond.methodLink "SecretRows" 208 ⟨"SecretRows$Log", "takes", "(I)Z"⟩ ∈ gW := kw_t (i := 381) (by decide +kernel) (by decide +kernel)
theorem kw_382 : Cond.instanceMethod ⟨"SecretRows$Log", "takes", "(I)Z"⟩ ∈ gW := kw_t (i := 382) (by decide +kernel) (by decide +kernel)
theorem kw_383 : Cond.selects "SecretRows$Log" ⟨"SecretRows$Log", "takes", "(I)Z"⟩ ⟨"SecretRows$Log", "takes", "(I)Z"⟩ ∈ gW := kw_t (i := 383) (by decide +kernel) (by decide +kernel)
set_option maxRecDepth 100000 in
theorem kw_384 : (Cond.code ⟨"SecretRows$Log", "takes", "(I)Z"⟩ prog_4_method_2_code 2 (Option.some FieldType.boolean)) ∈ gW := kw_t (i := 384) rfl rfl
theorem kw_385 : Cond.methodLink "SecretRows$Log" 27 ⟨"SecretRows$Text", "length", "()I"⟩ ∈ gW := kw_t (i := 385) (by decide +kernel) (by decide +kernel)
theorem kw_386 : Cond.methodLink "SecretRows" 141 ⟨"SecretRows", "gatherForms", "()V"⟩ ∈ gW := kw_t (i := 386) (by decide +kernel) (by decide +kernel)
theorem kw_388 : Cond.instanceMethod ⟨"SecretRows", "gatherForms", "()V"⟩ ∈ gW := kw_t (i := 388) (by decide +kernel) (by decide +kernel)
set_option maxRecDepth 100000 in
theorem kw_389 : (Cond.code ⟨"SecretRows", "gatherForms", "()V"⟩ prog_1_method_28_code 3 (Option.none : Option FieldType)) ∈ gW := kw_t (i := 389) rfl rfl
theorem kw_390 : Cond.methodLink "SecretRows" 231 ⟨"SecretRows$Forms", "clear", "()V"⟩ ∈ gW := kw_t (i := 390) (by decide +kernel) (by decide +kernel)
theorem kw_391 : Cond.instanceMethod ⟨"SecretRows$Forms", "clear", "()V"⟩ ∈ gW := kw_t (i := 391) (by decide +kernel) (by decide +kernel)
theorem kw_392 : Cond.selects "SecretRows$Forms" ⟨"SecretRows$Forms", "clear", "()V"⟩ ⟨"SecretRows$Forms", "clear", "()V"⟩ ∈ gW := kw_t (i := 392) (by decide +kernel) (by decide +kernel)
set_option maxRecDepth 100000 in
theorem kw_393 : (Cond.code ⟨"SecretRows$Forms", "clear", "()V"⟩ prog_3_method_2_code 1 (Option.none : Option FieldType)) ∈ gW := kw_t (i := 393) rfl rfl
theorem kw_394 : Cond.methodLink "SecretRows" 238 ⟨"SecretRows$Forms", "addAll", "(ILSecretRows$Value;I)V"⟩ ∈ gW := kw_t (i := 394) (by decide +kernel) (by decide +kernel)
theorem kw_395 : Cond.instanceMethod ⟨"SecretRows$Forms", "addAll", "(ILSecretRows$Value;I)V"⟩ ∈ gW := kw_t (i := 395) (by decide +kernel) (by decide +kernel)
theorem kw_396 : Cond.selects "SecretRows$Forms" ⟨"SecretRows$Forms", "addAll", "(ILSecretRows$Value;I)V"⟩ ⟨"SecretRows$Forms", "addAll", "(ILSecretRows$Value;I)V"⟩ ∈ gW := kw_t (i := 396) (by decide +kernel) (by decide +kernel)
set_option maxRecDepth 100000 in
theorem kw_397 : (Cond.code ⟨"SecretRows$Forms", "addAll", "(ILSecretRows$Value;I)V"⟩ prog_3_method_3_code 4 (Option.none : Option FieldType)) ∈ gW := kw_t (i := 397) rfl rfl
theorem kw_398 : Cond.methodLink "SecretRows$Forms" 37 ⟨"SecretRows$Forms", "add", "(LSecretRows$Text;III)V"⟩ ∈ gW := kw_t (i := 398) (by decide +kernel) (by decide +kernel)
theorem kw_400 : Cond.instanceMethod ⟨"SecretRows$Forms", "add", "(LSecretRows$Text;III)V"⟩ ∈ gW := kw_t (i := 400) (by decide +kernel) (by decide +kernel)
set_option maxRecDepth 100000 in
theorem kw_401 : (Cond.code ⟨"SecretRows$Forms", "add", "(LSecretRows$Text;III)V"⟩ prog_3_method_4_code 5 (Option.none : Option FieldType)) ∈ gW := kw_t (i := 401) rfl rfl
theorem kw_402 : Cond.methodLink "SecretRows" 211 ⟨"SecretRows$Log", "come", "(LSecretRows$Text;LSecretRows$Forms;)V"⟩ ∈ gW := kw_t (i := 402) (by decide +kernel) (by decide +kernel)
theorem kw_403 : Cond.instanceMethod ⟨"SecretRows$Log", "come", "(LSecretRows$Text;LSecretRows$Forms;)V"⟩ ∈ gW := kw_t (i := 403) (by decide +kernel) (by decide +kernel)
theorem kw_404 : Cond.selects "SecretRows$Log" ⟨"SecretRows$Log", "come", "(LSecretRows$Text;LSecretRows$Forms;)V"⟩ ⟨"SecretRows$Log", "come", "(LSecretRows$Text;LSecretRows$Forms;)V"⟩ ∈ gW := kw_t (i := 404) (by decide +kernel) (by decide +kernel)
set_option maxRecDepth 100000 in
theorem kw_405 : (Cond.code ⟨"SecretRows$Log", "come", "(LSecretRows$Text;LSecretRows$Forms;)V"⟩ prog_4_method_4_code 3 (Option.none : Option FieldType)) ∈ gW := kw_t (i := 405) rfl rfl
theorem kw_406 : Cond.methodLink "SecretRows$Log" 35 ⟨"SecretRows$Text", "addAll", "(LSecretRows$Text;)V"⟩ ∈ gW := kw_t (i := 406) (by decide +kernel) (by decide +kernel)
theorem kw_407 : Cond.methodLink "SecretRows$Log" 39 ⟨"SecretRows$Log", "cover", "(LSecretRows$Forms;Z)V"⟩ ∈ gW := kw_t (i := 407) (by decide +kernel) (by decide +kernel)
theorem kw_409 : Cond.instanceMethod ⟨"SecretRows$Log", "cover", "(LSecretRows$Forms;Z)V"⟩ ∈ gW := kw_t (i := 409) (by decide +kernel) (by decide +kernel)
set_option maxRecDepth 100000 in
theorem kw_410 : (Cond.code ⟨"SecretRows$Log", "cover", "(LSecretRows$Forms;Z)V"⟩ prog_4_method_6_code 5 (Option.none : Option FieldType)) ∈ gW := kw_t (i := 410) rfl rfl
theorem kw_411 : Cond.methodLink "SecretRows$Log" 43 ⟨"SecretRows$Forms", "mayCome", "(LSecretRows$Text;I)Z"⟩ ∈ gW := kw_t (i := 411) (by decide +kernel) (by decide +kernel)
theorem kw_412 : Cond.instanceMethod ⟨"SecretRows$Forms", "mayCome", "(LSecretRows$Text;I)Z"⟩ ∈ gW := kw_t (i := 412) (by decide +kernel) (by decide +kernel)
theorem kw_413 : Cond.selects "SecretRows$Forms" ⟨"SecretRows$Forms", "mayCome", "(LSecretRows$Text;I)Z"⟩ ⟨"SecretRows$Forms", "mayCome", "(LSecretRows$Text;I)Z"⟩ ∈ gW := kw_t (i := 413) (by decide +kernel) (by decide +kernel)
set_option maxRecDepth 100000 in
theorem kw_414 : (Cond.code ⟨"SecretRows$Forms", "mayCome", "(LSecretRows$Text;I)Z"⟩ prog_3_method_10_code 6 (Option.some FieldType.boolean)) ∈ gW := kw_t (i := 414) rfl rfl
theorem kw_415 : Cond.methodLink "SecretRows$Forms" 55 ⟨"SecretRows$Text", "length", "()I"⟩ ∈ gW := kw_t (i := 415) (by decide +kernel) (by decide +kernel)
theorem kw_416 : Cond.methodLink "SecretRows$Forms" 51 ⟨"SecretRows$Forms", "textOf", "(I)LSecretRows$Text;"⟩ ∈ gW := kw_t (i := 416) (by decide +kernel) (by decide +kernel)
theorem kw_418 : Cond.instanceMethod ⟨"SecretRows$Forms", "textOf", "(I)LSecretRows$Text;"⟩ ∈ gW := kw_t (i := 418) (by decide +kernel) (by decide +kernel)
set_option maxRecDepth 100000 in
theorem kw_419 : (Cond.code ⟨"SecretRows$Forms", "textOf", "(I)LSecretRows$Text;"⟩ prog_3_method_12_code 2 (Option.some (FieldType.object "SecretRows$Text"))) ∈ gW := kw_t (i := 419) rfl rfl
theorem kw_420 : Cond.methodLink "SecretRows$Forms" 47 ⟨"SecretRows$Forms", "isThere", "(I)Z"⟩ ∈ gW := kw_t (i := 420) (by decide +kernel) (by decide +kernel)
theorem kw_422 : Cond.instanceMethod ⟨"SecretRows$Forms", "isThere", "(I)Z"⟩ ∈ gW := kw_t (i := 422) (by decide +kernel) (by decide +kernel)
set_option maxRecDepth 100000 in
theorem kw_423 : (Cond.code ⟨"SecretRows$Forms", "isThere", "(I)Z"⟩ prog_3_method_11_code 2 (Option.some FieldType.boolean)) ∈ gW := kw_t (i := 423) rfl rfl
theorem kw_424 : Cond.methodLink "SecretRows$Forms" 59 ⟨"SecretRows$Text", "agrees", "(LSecretRows$Text;I)Z"⟩ ∈ gW := kw_t (i := 424) (by decide +kernel) (by decide +kernel)
theorem kw_425 : Cond.methodLink "SecretRows$Log" 49 ⟨"SecretRows$Forms", "longestWhole", "(LSecretRows$Text;I)I"⟩ ∈ gW := kw_t (i := 425) (by decide +kernel) (by decide +kernel)
theorem kw_426 : Cond.instanceMethod ⟨"SecretRows$Forms", "longestWhole", "(LSecretRows$Text;I)I"⟩ ∈ gW := kw_t (i := 426) (by decide +kernel) (by decide +kernel)
theorem kw_427 : Cond.selects "SecretRows$Forms" ⟨"SecretRows$Forms", "longestWhole", "(LSecretRows$Text;I)I"⟩ ⟨"SecretRows$Forms", "longestWhole", "(LSecretRows$Text;I)I"⟩ ∈ gW := kw_t (i := 427) (by decide +kernel) (by decide +kernel)
set_option maxRecDepth 100000 in
theorem kw_428 : (Cond.code ⟨"SecretRows$Forms", "longestWhole", "(LSecretRows$Text;I)I"⟩ prog_3_method_9_code 8 (Option.some FieldType.int)) ∈ gW := kw_t (i := 428) rfl rfl
theorem kw_429 : Cond.methodLink "SecretRows$Log" 53 ⟨"SecretRows$Text", "at", "(I)I"⟩ ∈ gW := kw_t (i := 429) (by decide +kernel) (by decide +kernel)
theorem kw_430 : Cond.methodLink "SecretRows$Log" 57 ⟨"SecretRows$Text", "add", "(I)Z"⟩ ∈ gW := kw_t (i := 430) (by decide +kernel) (by decide +kernel)
theorem kw_431 : Cond.methodLink "SecretRows$Log" 61 ⟨"SecretRows$Log", "tellStars", "()V"⟩ ∈ gW := kw_t (i := 431) (by decide +kernel) (by decide +kernel)
theorem kw_433 : Cond.instanceMethod ⟨"SecretRows$Log", "tellStars", "()V"⟩ ∈ gW := kw_t (i := 433) (by decide +kernel) (by decide +kernel)
set_option maxRecDepth 100000 in
theorem kw_434 : (Cond.code ⟨"SecretRows$Log", "tellStars", "()V"⟩ prog_4_method_7_code 2 (Option.none : Option FieldType)) ∈ gW := kw_t (i := 434) rfl rfl
theorem kw_435 : Cond.methodLink "SecretRows$Log" 64 ⟨"SecretRows$Forms", "lengthOf", "(I)I"⟩ ∈ gW := kw_t (i := 435) (by decide +kernel) (by decide +kernel)
theorem kw_436 : Cond.instanceMethod ⟨"SecretRows$Forms", "lengthOf", "(I)I"⟩ ∈ gW := kw_t (i := 436) (by decide +kernel) (by decide +kernel)
theorem kw_437 : Cond.selects "SecretRows$Forms" ⟨"SecretRows$Forms", "lengthOf", "(I)I"⟩ ⟨"SecretRows$Forms", "lengthOf", "(I)I"⟩ ∈ gW := kw_t (i := 437) (by decide +kernel) (by decide +kernel)
set_option maxRecDepth 100000 in
theorem kw_438 : (Cond.code ⟨"SecretRows$Forms", "lengthOf", "(I)I"⟩ prog_3_method_8_code 3 (Option.some FieldType.int)) ∈ gW := kw_t (i := 438) rfl rfl
set_option maxRecDepth 100000 in
theorem kw_442 : (Cond.code ⟨"SecretRows", "close", "(I)I"⟩ prog_1_method_12_code 3 (Option.some FieldType.int)) ∈ gW := kw_t (i := 442) rfl rfl
theorem kw_443 : Cond.methodLink "SecretRows" 144 ⟨"SecretRows$Log", "end", "(LSecretRows$Forms;)V"⟩ ∈ gW := kw_t (i := 443) (by decide +kernel) (by decide +kernel)
theorem kw_444 : Cond.instanceMethod ⟨"SecretRows$Log", "end", "(LSecretRows$Forms;)V"⟩ ∈ gW := kw_t (i := 444) (by decide +kernel) (by decide +kernel)
theorem kw_445 : Cond.selects "SecretRows$Log" ⟨"SecretRows$Log", "end", "(LSecretRows$Forms;)V"⟩ ⟨"SecretRows$Log", "end", "(LSecretRows$Forms;)V"⟩ ∈ gW := kw_t (i := 445) (by decide +kernel) (by decide +kernel)
set_option maxRecDepth 100000 in
theorem kw_446 : (Cond.code ⟨"SecretRows$Log", "end", "(LSecretRows$Forms;)V"⟩ prog_4_method_5_code 2 (Option.none : Option FieldType)) ∈ gW := kw_t (i := 446) rfl rfl
set_option maxRecDepth 100000 in
theorem kw_450 : (Cond.code ⟨"SecretRows", "told", "(II)I"⟩ prog_1_method_13_code 4 (Option.some FieldType.int)) ∈ gW := kw_t (i := 450) rfl rfl
set_option maxRecDepth 100000 in
theorem kw_454 : (Cond.code ⟨"SecretRows", "about", "(II)I"⟩ prog_1_method_14_code 4 (Option.some FieldType.int)) ∈ gW := kw_t (i := 454) rfl rfl
theorem kw_455 : Cond.methodLink "SecretRows" 155 ⟨"SecretRows$Log", "heldCount", "()I"⟩ ∈ gW := kw_t (i := 455) (by decide +kernel) (by decide +kernel)
theorem kw_456 : Cond.instanceMethod ⟨"SecretRows$Log", "heldCount", "()I"⟩ ∈ gW := kw_t (i := 456) (by decide +kernel) (by decide +kernel)
theorem kw_457 : Cond.selects "SecretRows$Log" ⟨"SecretRows$Log", "heldCount", "()I"⟩ ⟨"SecretRows$Log", "heldCount", "()I"⟩ ∈ gW := kw_t (i := 457) (by decide +kernel) (by decide +kernel)
set_option maxRecDepth 100000 in
theorem kw_458 : (Cond.code ⟨"SecretRows$Log", "heldCount", "()I"⟩ prog_4_method_3_code 1 (Option.some FieldType.int)) ∈ gW := kw_t (i := 458) rfl rfl
set_option maxRecDepth 100000 in
theorem kw_462 : (Cond.code ⟨"SecretRows", "token", "(III)I"⟩ prog_1_method_15_code 5 (Option.some FieldType.int)) ∈ gW := kw_t (i := 462) rfl rfl
theorem kw_463 : Cond.instantiable "SecretRows$Token" 3 ∈ gW := kw_t (i := 463) (by decide +kernel) (by decide +kernel)
theorem kw_464 : Cond.methodLink "SecretRows" 164 ⟨"SecretRows$Token", "<init>", "(ILSecretRows$Value;I)V"⟩ ∈ gW := kw_t (i := 464) (by decide +kernel) (by decide +kernel)
theorem kw_465 : Cond.instanceMethod ⟨"SecretRows$Token", "<init>", "(ILSecretRows$Value;I)V"⟩ ∈ gW := kw_t (i := 465) (by decide +kernel) (by decide +kernel)
set_option maxRecDepth 100000 in
theorem kw_466 : (Cond.code ⟨"SecretRows$Token", "<init>", "(ILSecretRows$Value;I)V"⟩ prog_8_method_1_code 4 (Option.none : Option FieldType)) ∈ gW := kw_t (i := 466) rfl rfl
theorem kw_467 : Cond.methodLink "SecretRows$Token" 1 ⟨"java/lang/Object", "<init>", "()V"⟩ ∈ gW := kw_t (i := 467) (by decide +kernel) (by decide +kernel)
theorem kw_468 : Cond.fieldLink "SecretRows$Token" 7 "SecretRows$Token" "secret" "I" ∈ gW := kw_t (i := 468) (by decide +kernel) (by decide +kernel)
theorem kw_469 : Cond.fieldLinkNest "SecretRows" 167 "SecretRows$Token" "secret" "I" "SecretRows" ∈ gNN := kn_t (i := 469) (by decide +kernel) (by decide +kernel)
theorem kw_470 : Cond.fieldLink "SecretRows$Token" 13 "SecretRows$Token" "value" "LSecretRows$Value;" ∈ gW := kw_t (i := 470) (by decide +kernel) (by decide +kernel)
theorem kw_471 : Cond.fieldLinkNest "SecretRows" 172 "SecretRows$Token" "value" "LSecretRows$Value;" "SecretRows" ∈ gNN := kn_t (i := 471) (by decide +kernel) (by decide +kernel)
theorem kw_472 : Cond.fieldLink "SecretRows$Token" 17 "SecretRows$Token" "end" "I" ∈ gW := kw_t (i := 472) (by decide +kernel) (by decide +kernel)
theorem kw_473 : Cond.fieldLinkNest "SecretRows" 170 "SecretRows$Token" "end" "I" "SecretRows" ∈ gNN := kn_t (i := 473) (by decide +kernel) (by decide +kernel)
theorem kw_474 : Cond.laysFinal "SecretRows$Token" "SecretRows$Token" "secret" "I" ∈ gW := kw_t (i := 474) (by decide +kernel) (by decide +kernel)
theorem kw_476 : Cond.laysFinal "SecretRows$Token" "SecretRows$Token" "value" "LSecretRows$Value;" ∈ gW := kw_t (i := 476) (by decide +kernel) (by decide +kernel)
theorem kw_478 : Cond.laysFinal "SecretRows$Token" "SecretRows$Token" "end" "I" ∈ gW := kw_t (i := 478) (by decide +kernel) (by decide +kernel)
set_option maxRecDepth 100000 in
theorem kw_484 : (Cond.code ⟨"SecretRows", "good", "(I)Z"⟩ prog_1_method_16_code 4 (Option.some FieldType.boolean)) ∈ gW := kw_t (i := 484) rfl rfl
theorem kw_485 : Cond.methodLink "SecretRows" 176 ⟨"SecretRows$Secret", "stillHas", "(LSecretRows$Value;)Z"⟩ ∈ gW := kw_t (i := 485) (by decide +kernel) (by decide +kernel)
theorem kw_486 : Cond.instanceMethod ⟨"SecretRows$Secret", "stillHas", "(LSecretRows$Value;)Z"⟩ ∈ gW := kw_t (i := 486) (by decide +kernel) (by decide +kernel)
theorem kw_487 : Cond.selects "SecretRows$Secret" ⟨"SecretRows$Secret", "stillHas", "(LSecretRows$Value;)Z"⟩ ⟨"SecretRows$Secret", "stillHas", "(LSecretRows$Value;)Z"⟩ ∈ gW := kw_t (i := 487) (by decide +kernel) (by decide +kernel)
set_option maxRecDepth 100000 in
theorem kw_488 : (Cond.code ⟨"SecretRows$Secret", "stillHas", "(LSecretRows$Value;)Z"⟩ prog_5_method_5_code 2 (Option.some FieldType.boolean)) ∈ gW := kw_t (i := 488) rfl rfl
set_option maxRecDepth 100000 in
theorem kw_492 : (Cond.code ⟨"SecretRows", "scan", "()I"⟩ prog_1_method_17_code 4 (Option.some FieldType.int)) ∈ gW := kw_t (i := 492) rfl rfl
theorem kw_493 : Cond.methodLink "SecretRows" 180 ⟨"SecretRows$Forms", "longestWhole", "(LSecretRows$Text;I)I"⟩ ∈ gW := kw_t (i := 493) (by decide +kernel) (by decide +kernel)
theorem kw_494 : Cond.methodLink "SecretRows" 184 ⟨"SecretRows", "rememberLeak", "(I)V"⟩ ∈ gW := kw_t (i := 494) (by decide +kernel) (by decide +kernel)
theorem kw_496 : Cond.instanceMethod ⟨"SecretRows", "rememberLeak", "(I)V"⟩ ∈ gW := kw_t (i := 496) (by decide +kernel) (by decide +kernel)
set_option maxRecDepth 100000 in
theorem kw_497 : (Cond.code ⟨"SecretRows", "rememberLeak", "(I)V"⟩ prog_1_method_29_code 2 (Option.none : Option FieldType)) ∈ gW := kw_t (i := 497) rfl rfl
theorem kw_498 : Cond.methodLink "SecretRows" 241 ⟨"SecretRows$Forms", "ownerOf", "(I)I"⟩ ∈ gW := kw_t (i := 498) (by decide +kernel) (by decide +kernel)
theorem kw_499 : Cond.instanceMethod ⟨"SecretRows$Forms", "ownerOf", "(I)I"⟩ ∈ gW := kw_t (i := 499) (by decide +kernel) (by decide +kernel)
theorem kw_500 : Cond.selects "SecretRows$Forms" ⟨"SecretRows$Forms", "ownerOf", "(I)I"⟩ ⟨"SecretRows$Forms", "ownerOf", "(I)I"⟩ ∈ gW := kw_t (i := 500) (by decide +kernel) (by decide +kernel)
set_option maxRecDepth 100000 in
theorem kw_501 : (Cond.code ⟨"SecretRows$Forms", "ownerOf", "(I)I"⟩ prog_3_method_5_code 2 (Option.some FieldType.int)) ∈ gW := kw_t (i := 501) rfl rfl
theorem kw_502 : Cond.methodLink "SecretRows" 244 ⟨"SecretRows$Forms", "kindOf", "(I)I"⟩ ∈ gW := kw_t (i := 502) (by decide +kernel) (by decide +kernel)
theorem kw_503 : Cond.instanceMethod ⟨"SecretRows$Forms", "kindOf", "(I)I"⟩ ∈ gW := kw_t (i := 503) (by decide +kernel) (by decide +kernel)
theorem kw_504 : Cond.selects "SecretRows$Forms" ⟨"SecretRows$Forms", "kindOf", "(I)I"⟩ ⟨"SecretRows$Forms", "kindOf", "(I)I"⟩ ∈ gW := kw_t (i := 504) (by decide +kernel) (by decide +kernel)
set_option maxRecDepth 100000 in
theorem kw_505 : (Cond.code ⟨"SecretRows$Forms", "kindOf", "(I)I"⟩ prog_3_method_6_code 2 (Option.some FieldType.int)) ∈ gW := kw_t (i := 505) rfl rfl
theorem kw_506 : Cond.methodLink "SecretRows" 247 ⟨"SecretRows$Forms", "oldOf", "(I)I"⟩ ∈ gW := kw_t (i := 506) (by decide +kernel) (by decide +kernel)
theorem kw_507 : Cond.instanceMethod ⟨"SecretRows$Forms", "oldOf", "(I)I"⟩ ∈ gW := kw_t (i := 507) (by decide +kernel) (by decide +kernel)
theorem kw_508 : Cond.selects "SecretRows$Forms" ⟨"SecretRows$Forms", "oldOf", "(I)I"⟩ ⟨"SecretRows$Forms", "oldOf", "(I)I"⟩ ∈ gW := kw_t (i := 508) (by decide +kernel) (by decide +kernel)
set_option maxRecDepth 100000 in
theorem kw_509 : (Cond.code ⟨"SecretRows$Forms", "oldOf", "(I)I"⟩ prog_3_method_7_code 2 (Option.some FieldType.int)) ∈ gW := kw_t (i := 509) rfl rfl
set_option maxRecDepth 100000 in
theorem kw_513 : (Cond.code ⟨"SecretRows", "leak", "(I)I"⟩ prog_1_method_18_code 2 (Option.some FieldType.int)) ∈ gW := kw_t (i := 513) rfl rfl
set_option maxRecDepth 100000 in
theorem kw_518 : (Cond.code ⟨"SecretRowsModel", "<init>", "()V"⟩ prog_11_method_1_code 1 (Option.none : Option FieldType)) ∈ gW := kw_t (i := 518) rfl rfl
theorem kw_519 : Cond.methodLink "SecretRowsModel" 1 ⟨"java/lang/Object", "<init>", "()V"⟩ ∈ gW := kw_t (i := 519) (by decide +kernel) (by decide +kernel)
theorem kw_520 : Cond.fieldLink "SecretRowsModel" 90 "SecretRowsModel" "code" "I" ∈ gW := kw_t (i := 520) (by decide +kernel) (by decide +kernel)
theorem kw_521 : Cond.fieldLink "SecretRowsModel" 114 "SecretRowsModel" "clock" "I" ∈ gW := kw_t (i := 521) (by decide +kernel) (by decide +kernel)
theorem kw_522 : Cond.fieldLink "SecretRowsModel" 93 "SecretRowsModel" "secrets" "I" ∈ gW := kw_t (i := 522) (by decide +kernel) (by decide +kernel)
theorem kw_523 : Cond.fieldLink "SecretRowsModel" 111 "SecretRowsModel" "valuesMany" "I" ∈ gW := kw_t (i := 523) (by decide +kernel) (by decide +kernel)
theorem kw_524 : Cond.fieldLink "SecretRowsModel" 96 "SecretRowsModel" "steps" "I" ∈ gW := kw_t (i := 524) (by decide +kernel) (by decide +kernel)
theorem kw_525 : Cond.fieldLink "SecretRowsModel" 154 "SecretRowsModel" "tokens" "I" ∈ gW := kw_t (i := 525) (by decide +kernel) (by decide +kernel)
theorem kw_526 : Cond.fieldLink "SecretRowsModel" 125 "SecretRowsModel" "audits" "I" ∈ gW := kw_t (i := 526) (by decide +kernel) (by decide +kernel)
theorem kw_527 : Cond.fieldLink "SecretRowsModel" 7 "SecretRowsModel" "whose" "[I" ∈ gW := kw_t (i := 527) (by decide +kernel) (by decide +kernel)
theorem kw_528 : Cond.fieldLink "SecretRowsModel" 13 "SecretRowsModel" "length" "[I" ∈ gW := kw_t (i := 528) (by decide +kernel) (by decide +kernel)
theorem kw_529 : Cond.fieldLink "SecretRowsModel" 16 "SecretRowsModel" "sign" "[I" ∈ gW := kw_t (i := 529) (by decide +kernel) (by decide +kernel)
theorem kw_530 : Cond.fieldLink "SecretRowsModel" 19 "SecretRowsModel" "environments" "[I" ∈ gW := kw_t (i := 530) (by decide +kernel) (by decide +kernel)
theorem kw_531 : Cond.fieldLink "SecretRowsModel" 22 "SecretRowsModel" "branches" "[I" ∈ gW := kw_t (i := 531) (by decide +kernel) (by decide +kernel)
theorem kw_532 : Cond.fieldLink "SecretRowsModel" 25 "SecretRowsModel" "jobs" "[I" ∈ gW := kw_t (i := 532) (by decide +kernel) (by decide +kernel)
theorem kw_533 : Cond.fieldLink "SecretRowsModel" 28 "SecretRowsModel" "value" "[I" ∈ gW := kw_t (i := 533) (by decide +kernel) (by decide +kernel)
theorem kw_534 : Cond.fieldLink "SecretRowsModel" 31 "SecretRowsModel" "old" "[I" ∈ gW := kw_t (i := 534) (by decide +kernel) (by decide +kernel)
theorem kw_535 : Cond.fieldLink "SecretRowsModel" 34 "SecretRowsModel" "till" "[I" ∈ gW := kw_t (i := 535) (by decide +kernel) (by decide +kernel)
theorem kw_536 : Cond.fieldLink "SecretRowsModel" 37 "SecretRowsModel" "isRevoked" "[Z" ∈ gW := kw_t (i := 536) (by decide +kernel) (by decide +kernel)
theorem kw_537 : Cond.fieldLink "SecretRowsModel" 41 "SecretRowsModel" "tape" "[I" ∈ gW := kw_t (i := 537) (by decide +kernel) (by decide +kernel)
theorem kw_538 : Cond.fieldLink "SecretRowsModel" 99 "SecretRowsModel" "taped" "I" ∈ gW := kw_t (i := 538) (by decide +kernel) (by decide +kernel)
theorem kw_539 : Cond.fieldLink "SecretRowsModel" 44 "SecretRowsModel" "kept" "[I" ∈ gW := kw_t (i := 539) (by decide +kernel) (by decide +kernel)
theorem kw_540 : Cond.fieldLink "SecretRowsModel" 47 "SecretRowsModel" "text" "[I" ∈ gW := kw_t (i := 540) (by decide +kernel) (by decide +kernel)
theorem kw_541 : Cond.fieldLink "SecretRowsModel" 50 "SecretRowsModel" "size" "[I" ∈ gW := kw_t (i := 541) (by decide +kernel) (by decide +kernel)
theorem kw_542 : Cond.fieldLink "SecretRowsModel" 53 "SecretRowsModel" "at" "[I" ∈ gW := kw_t (i := 542) (by decide +kernel) (by decide +kernel)
theorem kw_543 : Cond.fieldLink "SecretRowsModel" 56 "SecretRowsModel" "told" "[I" ∈ gW := kw_t (i := 543) (by decide +kernel) (by decide +kernel)
theorem kw_544 : Cond.fieldLink "SecretRowsModel" 59 "SecretRowsModel" "toldMany" "[I" ∈ gW := kw_t (i := 544) (by decide +kernel) (by decide +kernel)
theorem kw_545 : Cond.fieldLink "SecretRowsModel" 62 "SecretRowsModel" "covered" "[I" ∈ gW := kw_t (i := 545) (by decide +kernel) (by decide +kernel)
theorem kw_546 : Cond.fieldLink "SecretRowsModel" 65 "SecretRowsModel" "isClosed" "[Z" ∈ gW := kw_t (i := 546) (by decide +kernel) (by decide +kernel)
theorem kw_547 : Cond.fieldLink "SecretRowsModel" 68 "SecretRowsModel" "auditStep" "[I" ∈ gW := kw_t (i := 547) (by decide +kernel) (by decide +kernel)
theorem kw_548 : Cond.fieldLink "SecretRowsModel" 71 "SecretRowsModel" "auditSecret" "[I" ∈ gW := kw_t (i := 548) (by decide +kernel) (by decide +kernel)
theorem kw_549 : Cond.fieldLink "SecretRowsModel" 74 "SecretRowsModel" "auditClock" "[I" ∈ gW := kw_t (i := 549) (by decide +kernel) (by decide +kernel)
theorem kw_550 : Cond.fieldLink "SecretRowsModel" 77 "SecretRowsModel" "tokenSecret" "[I" ∈ gW := kw_t (i := 550) (by decide +kernel) (by decide +kernel)
theorem kw_551 : Cond.fieldLink "SecretRowsModel" 80 "SecretRowsModel" "tokenValue" "[I" ∈ gW := kw_t (i := 551) (by decide +kernel) (by decide +kernel)
theorem kw_552 : Cond.fieldLink "SecretRowsModel" 83 "SecretRowsModel" "tokenEnd" "[I" ∈ gW := kw_t (i := 552) (by decide +kernel) (by decide +kernel)
theorem kw_553 : Cond.fieldLink "SecretRowsModel" 86 "SecretRowsModel" "leakSecret" "I" ∈ gW := kw_t (i := 553) (by decide +kernel) (by decide +kernel)
theorem kw_554 : Cond.fieldLink "SecretRowsModel" 157 "SecretRowsModel" "leakForm" "I" ∈ gW := kw_t (i := 554) (by decide +kernel) (by decide +kernel)
theorem kw_555 : Cond.fieldLink "SecretRowsModel" 160 "SecretRowsModel" "leakOld" "I" ∈ gW := kw_t (i := 555) (by decide +kernel) (by decide +kernel)
theorem kw_556 : Cond.lays "SecretRowsModel" "SecretRowsModel" "code" "I" ∈ gW := kw_t (i := 556) (by decide +kernel) (by decide +kernel)
theorem kw_558 : Cond.lays "SecretRowsModel" "SecretRowsModel" "clock" "I" ∈ gW := kw_t (i := 558) (by decide +kernel) (by decide +kernel)
theorem kw_560 : Cond.lays "SecretRowsModel" "SecretRowsModel" "secrets" "I" ∈ gW := kw_t (i := 560) (by decide +kernel) (by decide +kernel)
theorem kw_562 : Cond.lays "SecretRowsModel" "SecretRowsModel" "valuesMany" "I" ∈ gW := kw_t (i := 562) (by decide +kernel) (by decide +kernel)
theorem kw_564 : Cond.lays "SecretRowsModel" "SecretRowsModel" "steps" "I" ∈ gW := kw_t (i := 564) (by decide +kernel) (by decide +kernel)
theorem kw_566 : Cond.lays "SecretRowsModel" "SecretRowsModel" "tokens" "I" ∈ gW := kw_t (i := 566) (by decide +kernel) (by decide +kernel)
theorem kw_568 : Cond.lays "SecretRowsModel" "SecretRowsModel" "audits" "I" ∈ gW := kw_t (i := 568) (by decide +kernel) (by decide +kernel)
theorem kw_570 : Cond.laysFinal "SecretRowsModel" "SecretRowsModel" "whose" "[I" ∈ gW := kw_t (i := 570) (by decide +kernel) (by decide +kernel)
theorem kw_572 : Cond.laysFinal "SecretRowsModel" "SecretRowsModel" "length" "[I" ∈ gW := kw_t (i := 572) (by decide +kernel) (by decide +kernel)
theorem kw_574 : Cond.laysFinal "SecretRowsModel" "SecretRowsModel" "sign" "[I" ∈ gW := kw_t (i := 574) (by decide +kernel) (by decide +kernel)
theorem kw_576 : Cond.laysFinal "SecretRowsModel" "SecretRowsModel" "environments" "[I" ∈ gW := kw_t (i := 576) (by decide +kernel) (by decide +kernel)
theorem kw_578 : Cond.laysFinal "SecretRowsModel" "SecretRowsModel" "branches" "[I" ∈ gW := kw_t (i := 578) (by decide +kernel) (by decide +kernel)
theorem kw_580 : Cond.laysFinal "SecretRowsModel" "SecretRowsModel" "jobs" "[I" ∈ gW := kw_t (i := 580) (by decide +kernel) (by decide +kernel)
theorem kw_582 : Cond.laysFinal "SecretRowsModel" "SecretRowsModel" "value" "[I" ∈ gW := kw_t (i := 582) (by decide +kernel) (by decide +kernel)
theorem kw_584 : Cond.laysFinal "SecretRowsModel" "SecretRowsModel" "old" "[I" ∈ gW := kw_t (i := 584) (by decide +kernel) (by decide +kernel)
theorem kw_586 : Cond.laysFinal "SecretRowsModel" "SecretRowsModel" "till" "[I" ∈ gW := kw_t (i := 586) (by decide +kernel) (by decide +kernel)
theorem kw_588 : Cond.laysFinal "SecretRowsModel" "SecretRowsModel" "isRevoked" "[Z" ∈ gW := kw_t (i := 588) (by decide +kernel) (by decide +kernel)
theorem kw_590 : Cond.laysFinal "SecretRowsModel" "SecretRowsModel" "tape" "[I" ∈ gW := kw_t (i := 590) (by decide +kernel) (by decide +kernel)
theorem kw_592 : Cond.lays "SecretRowsModel" "SecretRowsModel" "taped" "I" ∈ gW := kw_t (i := 592) (by decide +kernel) (by decide +kernel)
theorem kw_594 : Cond.laysFinal "SecretRowsModel" "SecretRowsModel" "kept" "[I" ∈ gW := kw_t (i := 594) (by decide +kernel) (by decide +kernel)
theorem kw_596 : Cond.laysFinal "SecretRowsModel" "SecretRowsModel" "text" "[I" ∈ gW := kw_t (i := 596) (by decide +kernel) (by decide +kernel)
theorem kw_598 : Cond.laysFinal "SecretRowsModel" "SecretRowsModel" "size" "[I" ∈ gW := kw_t (i := 598) (by decide +kernel) (by decide +kernel)
theorem kw_600 : Cond.laysFinal "SecretRowsModel" "SecretRowsModel" "at" "[I" ∈ gW := kw_t (i := 600) (by decide +kernel) (by decide +kernel)
theorem kw_602 : Cond.laysFinal "SecretRowsModel" "SecretRowsModel" "told" "[I" ∈ gW := kw_t (i := 602) (by decide +kernel) (by decide +kernel)
theorem kw_604 : Cond.laysFinal "SecretRowsModel" "SecretRowsModel" "toldMany" "[I" ∈ gW := kw_t (i := 604) (by decide +kernel) (by decide +kernel)
theorem kw_606 : Cond.laysFinal "SecretRowsModel" "SecretRowsModel" "covered" "[I" ∈ gW := kw_t (i := 606) (by decide +kernel) (by decide +kernel)
theorem kw_608 : Cond.laysFinal "SecretRowsModel" "SecretRowsModel" "isClosed" "[Z" ∈ gW := kw_t (i := 608) (by decide +kernel) (by decide +kernel)
theorem kw_610 : Cond.laysFinal "SecretRowsModel" "SecretRowsModel" "auditStep" "[I" ∈ gW := kw_t (i := 610) (by decide +kernel) (by decide +kernel)
theorem kw_612 : Cond.laysFinal "SecretRowsModel" "SecretRowsModel" "auditSecret" "[I" ∈ gW := kw_t (i := 612) (by decide +kernel) (by decide +kernel)
theorem kw_614 : Cond.laysFinal "SecretRowsModel" "SecretRowsModel" "auditClock" "[I" ∈ gW := kw_t (i := 614) (by decide +kernel) (by decide +kernel)
theorem kw_616 : Cond.laysFinal "SecretRowsModel" "SecretRowsModel" "tokenSecret" "[I" ∈ gW := kw_t (i := 616) (by decide +kernel) (by decide +kernel)
theorem kw_618 : Cond.laysFinal "SecretRowsModel" "SecretRowsModel" "tokenValue" "[I" ∈ gW := kw_t (i := 618) (by decide +kernel) (by decide +kernel)
theorem kw_620 : Cond.laysFinal "SecretRowsModel" "SecretRowsModel" "tokenEnd" "[I" ∈ gW := kw_t (i := 620) (by decide +kernel) (by decide +kernel)
theorem kw_622 : Cond.lays "SecretRowsModel" "SecretRowsModel" "leakSecret" "I" ∈ gW := kw_t (i := 622) (by decide +kernel) (by decide +kernel)
theorem kw_624 : Cond.lays "SecretRowsModel" "SecretRowsModel" "leakForm" "I" ∈ gW := kw_t (i := 624) (by decide +kernel) (by decide +kernel)
theorem kw_626 : Cond.lays "SecretRowsModel" "SecretRowsModel" "leakOld" "I" ∈ gW := kw_t (i := 626) (by decide +kernel) (by decide +kernel)
theorem kw_629 : Cond.arrayClass FieldType.boolean ∈ gW := kw_t (i := 629) (by decide +kernel) (by decide +kernel)
set_option maxRecDepth 100000 in
theorem kw_633 : (Cond.code ⟨"SecretRowsModel", "secret", "(III)I"⟩ prog_11_method_5_code 4 (Option.some FieldType.int)) ∈ gW := kw_t (i := 633) rfl rfl
set_option maxRecDepth 100000 in
theorem kw_637 : (Cond.code ⟨"SecretRowsModel", "type", "(C)Z"⟩ prog_11_method_6_code 2 (Option.some FieldType.boolean)) ∈ gW := kw_t (i := 637) rfl rfl
set_option maxRecDepth 100000 in
theorem kw_641 : (Cond.code ⟨"SecretRowsModel", "set", "(II)I"⟩ prog_11_method_8_code 5 (Option.some FieldType.int)) ∈ gW := kw_t (i := 641) rfl rfl
theorem kw_642 : Cond.methodLink "SecretRowsModel" 102 ⟨"SecretRowsModel", "isSecret", "(I)Z"⟩ ∈ gW := kw_t (i := 642) (by decide +kernel) (by decide +kernel)
theorem kw_644 : Cond.instanceMethod ⟨"SecretRowsModel", "isSecret", "(I)Z"⟩ ∈ gW := kw_t (i := 644) (by decide +kernel) (by decide +kernel)
set_option maxRecDepth 100000 in
theorem kw_645 : (Cond.code ⟨"SecretRowsModel", "isSecret", "(I)Z"⟩ prog_11_method_3_code 2 (Option.some FieldType.boolean)) ∈ gW := kw_t (i := 645) rfl rfl
theorem kw_646 : Cond.constant "SecretRowsModel" 106 100000 ∈ gW := kw_t (i := 646) (by decide +kernel) (by decide +kernel)
theorem kw_647 : Cond.methodLink "SecretRowsModel" 107 ⟨"SecretRowsModel", "isTaped", "(II)Z"⟩ ∈ gW := kw_t (i := 647) (by decide +kernel) (by decide +kernel)
theorem kw_649 : Cond.instanceMethod ⟨"SecretRowsModel", "isTaped", "(II)Z"⟩ ∈ gW := kw_t (i := 649) (by decide +kernel) (by decide +kernel)
set_option maxRecDepth 100000 in
theorem kw_650 : (Cond.code ⟨"SecretRowsModel", "isTaped", "(II)Z"⟩ prog_11_method_7_code 5 (Option.some FieldType.boolean)) ∈ gW := kw_t (i := 650) rfl rfl
set_option maxRecDepth 100000 in
theorem kw_654 : (Cond.code ⟨"SecretRowsModel", "revoke", "(I)Z"⟩ prog_11_method_9_code 2 (Option.some FieldType.boolean)) ∈ gW := kw_t (i := 654) rfl rfl
set_option maxRecDepth 100000 in
theorem kw_658 : (Cond.code ⟨"SecretRowsModel", "tick", "(I)I"⟩ prog_11_method_10_code 2 (Option.some FieldType.int)) ∈ gW := kw_t (i := 658) rfl rfl
theorem kw_659 : Cond.constant "SecretRowsModel" 117 1000000000 ∈ gW := kw_t (i := 659) (by decide +kernel) (by decide +kernel)
set_option maxRecDepth 100000 in
theorem kw_663 : (Cond.code ⟨"SecretRowsModel", "step", "(IIIZ)I"⟩ prog_11_method_11_code 7 (Option.some FieldType.int)) ∈ gW := kw_t (i := 663) rfl rfl
set_option maxRecDepth 100000 in
theorem kw_667 : (Cond.code ⟨"SecretRowsModel", "sees", "(II)I"⟩ prog_11_method_13_code 5 (Option.some FieldType.int)) ∈ gW := kw_t (i := 667) rfl rfl
theorem kw_668 : Cond.methodLink "SecretRowsModel" 121 ⟨"SecretRowsModel", "keptOf", "(II)I"⟩ ∈ gW := kw_t (i := 668) (by decide +kernel) (by decide +kernel)
theorem kw_670 : Cond.instanceMethod ⟨"SecretRowsModel", "keptOf", "(II)I"⟩ ∈ gW := kw_t (i := 670) (by decide +kernel) (by decide +kernel)
set_option maxRecDepth 100000 in
theorem kw_671 : (Cond.code ⟨"SecretRowsModel", "keptOf", "(II)I"⟩ prog_11_method_12_code 3 (Option.some FieldType.int)) ∈ gW := kw_t (i := 671) rfl rfl
theorem kw_672 : Cond.methodLink "SecretRowsModel" 118 ⟨"SecretRowsModel", "isStep", "(I)Z"⟩ ∈ gW := kw_t (i := 672) (by decide +kernel) (by decide +kernel)
theorem kw_674 : Cond.instanceMethod ⟨"SecretRowsModel", "isStep", "(I)Z"⟩ ∈ gW := kw_t (i := 674) (by decide +kernel) (by decide +kernel)
set_option maxRecDepth 100000 in
theorem kw_675 : (Cond.code ⟨"SecretRowsModel", "isStep", "(I)Z"⟩ prog_11_method_4_code 2 (Option.some FieldType.boolean)) ∈ gW := kw_t (i := 675) rfl rfl
set_option maxRecDepth 100000 in
theorem kw_679 : (Cond.code ⟨"SecretRowsModel", "read", "(III)I"⟩ prog_11_method_14_code 5 (Option.some FieldType.int)) ∈ gW := kw_t (i := 679) rfl rfl
set_option maxRecDepth 100000 in
theorem kw_683 : (Cond.code ⟨"SecretRowsModel", "audit", "(II)I"⟩ prog_11_method_15_code 3 (Option.some FieldType.int)) ∈ gW := kw_t (i := 683) rfl rfl
set_option maxRecDepth 100000 in
theorem kw_687 : (Cond.code ⟨"SecretRowsModel", "log", "(I)I"⟩ prog_11_method_23_code 4 (Option.some FieldType.int)) ∈ gW := kw_t (i := 687) rfl rfl
theorem kw_688 : Cond.methodLink "SecretRowsModel" 150 ⟨"SecretRowsModel", "cover", "(IZ)V"⟩ ∈ gW := kw_t (i := 688) (by decide +kernel) (by decide +kernel)
theorem kw_690 : Cond.instanceMethod ⟨"SecretRowsModel", "cover", "(IZ)V"⟩ ∈ gW := kw_t (i := 690) (by decide +kernel) (by decide +kernel)
set_option maxRecDepth 100000 in
theorem kw_691 : (Cond.code ⟨"SecretRowsModel", "cover", "(IZ)V"⟩ prog_11_method_22_code 11 (Option.none : Option FieldType)) ∈ gW := kw_t (i := 691) rfl rfl
theorem kw_692 : Cond.methodLink "SecretRowsModel" 139 ⟨"SecretRowsModel", "counts", "(I)Z"⟩ ∈ gW := kw_t (i := 692) (by decide +kernel) (by decide +kernel)
theorem kw_694 : Cond.instanceMethod ⟨"SecretRowsModel", "counts", "(I)Z"⟩ ∈ gW := kw_t (i := 694) (by decide +kernel) (by decide +kernel)
set_option maxRecDepth 100000 in
theorem kw_695 : (Cond.code ⟨"SecretRowsModel", "counts", "(I)Z"⟩ prog_11_method_16_code 3 (Option.some FieldType.boolean)) ∈ gW := kw_t (i := 695) rfl rfl
theorem kw_696 : Cond.methodLink "SecretRowsModel" 142 ⟨"SecretRowsModel", "common", "([IIIII)I"⟩ ∈ gW := kw_t (i := 696) (by decide +kernel) (by decide +kernel)
theorem kw_698 : Cond.instanceMethod ⟨"SecretRowsModel", "common", "([IIIII)I"⟩ ∈ gW := kw_t (i := 698) (by decide +kernel) (by decide +kernel)
set_option maxRecDepth 100000 in
theorem kw_699 : (Cond.code ⟨"SecretRowsModel", "common", "([IIIII)I"⟩ prog_11_method_20_code 7 (Option.some FieldType.int)) ∈ gW := kw_t (i := 699) rfl rfl
theorem kw_700 : Cond.methodLink "SecretRowsModel" 132 ⟨"SecretRowsModel", "formLength", "(II)I"⟩ ∈ gW := kw_t (i := 700) (by decide +kernel) (by decide +kernel)
theorem kw_702 : Cond.instanceMethod ⟨"SecretRowsModel", "formLength", "(II)I"⟩ ∈ gW := kw_t (i := 702) (by decide +kernel) (by decide +kernel)
set_option maxRecDepth 100000 in
theorem kw_703 : (Cond.code ⟨"SecretRowsModel", "formLength", "(II)I"⟩ prog_11_method_17_code 3 (Option.some FieldType.int)) ∈ gW := kw_t (i := 703) rfl rfl
theorem kw_704 : Cond.methodLink "SecretRowsModel" 135 ⟨"SecretRowsModel", "formSign", "(III)I"⟩ ∈ gW := kw_t (i := 704) (by decide +kernel) (by decide +kernel)
theorem kw_706 : Cond.instanceMethod ⟨"SecretRowsModel", "formSign", "(III)I"⟩ ∈ gW := kw_t (i := 706) (by decide +kernel) (by decide +kernel)
set_option maxRecDepth 100000 in
theorem kw_707 : (Cond.code ⟨"SecretRowsModel", "formSign", "(III)I"⟩ prog_11_method_19_code 4 (Option.some FieldType.int)) ∈ gW := kw_t (i := 707) rfl rfl
theorem kw_708 : Cond.methodLink "SecretRowsModel" 128 ⟨"SecretRowsModel", "digit", "(I)I"⟩ ∈ gW := kw_t (i := 708) (by decide +kernel) (by decide +kernel)
theorem kw_709 : Cond.static ⟨"SecretRowsModel", "digit", "(I)I"⟩ ∈ gW := kw_t (i := 709) (by decide +kernel) (by decide +kernel)
set_option maxRecDepth 100000 in
theorem kw_710 : (Cond.code ⟨"SecretRowsModel", "digit", "(I)I"⟩ prog_11_method_18_code 1 (Option.some FieldType.int)) ∈ gW := kw_t (i := 710) rfl rfl
theorem kw_711 : Cond.methodLink "SecretRowsModel" 146 ⟨"SecretRowsModel", "tell", "(II)V"⟩ ∈ gW := kw_t (i := 711) (by decide +kernel) (by decide +kernel)
theorem kw_713 : Cond.instanceMethod ⟨"SecretRowsModel", "tell", "(II)V"⟩ ∈ gW := kw_t (i := 713) (by decide +kernel) (by decide +kernel)
set_option maxRecDepth 100000 in
theorem kw_714 : (Cond.code ⟨"SecretRowsModel", "tell", "(II)V"⟩ prog_11_method_21_code 3 (Option.none : Option FieldType)) ∈ gW := kw_t (i := 714) rfl rfl
set_option maxRecDepth 100000 in
theorem kw_718 : (Cond.code ⟨"SecretRowsModel", "close", "(I)I"⟩ prog_11_method_24_code 2 (Option.some FieldType.int)) ∈ gW := kw_t (i := 718) rfl rfl
set_option maxRecDepth 100000 in
theorem kw_722 : (Cond.code ⟨"SecretRowsModel", "told", "(II)I"⟩ prog_11_method_25_code 3 (Option.some FieldType.int)) ∈ gW := kw_t (i := 722) rfl rfl
set_option maxRecDepth 100000 in
theorem kw_726 : (Cond.code ⟨"SecretRowsModel", "about", "(II)I"⟩ prog_11_method_26_code 3 (Option.some FieldType.int)) ∈ gW := kw_t (i := 726) rfl rfl
set_option maxRecDepth 100000 in
theorem kw_730 : (Cond.code ⟨"SecretRowsModel", "token", "(III)I"⟩ prog_11_method_27_code 4 (Option.some FieldType.int)) ∈ gW := kw_t (i := 730) rfl rfl
set_option maxRecDepth 100000 in
theorem kw_734 : (Cond.code ⟨"SecretRowsModel", "good", "(I)Z"⟩ prog_11_method_28_code 2 (Option.some FieldType.boolean)) ∈ gW := kw_t (i := 734) rfl rfl
set_option maxRecDepth 100000 in
theorem kw_738 : (Cond.code ⟨"SecretRowsModel", "scan", "()I"⟩ prog_11_method_29_code 8 (Option.some FieldType.int)) ∈ gW := kw_t (i := 738) rfl rfl
set_option maxRecDepth 100000 in
theorem kw_742 : (Cond.code ⟨"SecretRowsModel", "leak", "(I)I"⟩ prog_11_method_30_code 2 (Option.some FieldType.int)) ∈ gW := kw_t (i := 742) rfl rfl
theorem ks_Main_findSecret : Cond.selects "SecretRows" ⟨"SecretRows", "findSecret", "(I)LSecretRows$Secret;"⟩ ⟨"SecretRows", "findSecret", "(I)LSecretRows$Secret;"⟩ ∈ gW := ks_t (i := 0) (by decide +kernel) (by decide +kernel)
theorem ks_Main_tapeCanBeValue : Cond.selects "SecretRows" ⟨"SecretRows", "tapeCanBeValue", "()Z"⟩ ⟨"SecretRows", "tapeCanBeValue", "()Z"⟩ ∈ gW := ks_t (i := 2) (by decide +kernel) (by decide +kernel)
theorem ks_Main_tapeIsHad : Cond.selects "SecretRows" ⟨"SecretRows", "tapeIsHad", "()Z"⟩ ⟨"SecretRows", "tapeIsHad", "()Z"⟩ ∈ gW := ks_t (i := 3) (by decide +kernel) (by decide +kernel)
theorem ks_Main_setFromTape : Cond.selects "SecretRows" ⟨"SecretRows", "setFromTape", "(LSecretRows$Secret;I)I"⟩ ⟨"SecretRows", "setFromTape", "(LSecretRows$Secret;I)I"⟩ ∈ gW := ks_t (i := 1) (by decide +kernel) (by decide +kernel)
theorem ks_Main_keepSeen : Cond.selects "SecretRows" ⟨"SecretRows", "keepSeen", "(LSecretRows$Step;III)V"⟩ ⟨"SecretRows", "keepSeen", "(LSecretRows$Step;III)V"⟩ ∈ gW := ks_t (i := 4) (by decide +kernel) (by decide +kernel)
theorem ks_Main_findStep : Cond.selects "SecretRows" ⟨"SecretRows", "findStep", "(I)LSecretRows$Step;"⟩ ⟨"SecretRows", "findStep", "(I)LSecretRows$Step;"⟩ ∈ gW := ks_t (i := 5) (by decide +kernel) (by decide +kernel)
theorem ks_Main_keptValue : Cond.selects "SecretRows" ⟨"SecretRows", "keptValue", "(II)LSecretRows$Value;"⟩ ⟨"SecretRows", "keptValue", "(II)LSecretRows$Value;"⟩ ∈ gW := ks_t (i := 6) (by decide +kernel) (by decide +kernel)
theorem ks_Forms_add : Cond.selects "SecretRows$Forms" ⟨"SecretRows$Forms", "add", "(LSecretRows$Text;III)V"⟩ ⟨"SecretRows$Forms", "add", "(LSecretRows$Text;III)V"⟩ ∈ gW := ks_t (i := 9) (by decide +kernel) (by decide +kernel)
theorem ks_Forms_isThere : Cond.selects "SecretRows$Forms" ⟨"SecretRows$Forms", "isThere", "(I)Z"⟩ ⟨"SecretRows$Forms", "isThere", "(I)Z"⟩ ∈ gW := ks_t (i := 12) (by decide +kernel) (by decide +kernel)
theorem ks_Forms_textOf : Cond.selects "SecretRows$Forms" ⟨"SecretRows$Forms", "textOf", "(I)LSecretRows$Text;"⟩ ⟨"SecretRows$Forms", "textOf", "(I)LSecretRows$Text;"⟩ ∈ gW := ks_t (i := 11) (by decide +kernel) (by decide +kernel)
theorem ks_Log_tellStars : Cond.selects "SecretRows$Log" ⟨"SecretRows$Log", "tellStars", "()V"⟩ ⟨"SecretRows$Log", "tellStars", "()V"⟩ ∈ gW := ks_t (i := 13) (by decide +kernel) (by decide +kernel)
theorem ks_Log_cover : Cond.selects "SecretRows$Log" ⟨"SecretRows$Log", "cover", "(LSecretRows$Forms;Z)V"⟩ ⟨"SecretRows$Log", "cover", "(LSecretRows$Forms;Z)V"⟩ ∈ gW := ks_t (i := 10) (by decide +kernel) (by decide +kernel)
theorem ks_Main_gatherForms : Cond.selects "SecretRows" ⟨"SecretRows", "gatherForms", "()V"⟩ ⟨"SecretRows", "gatherForms", "()V"⟩ ∈ gW := ks_t (i := 8) (by decide +kernel) (by decide +kernel)
theorem ks_Main_logFromTape : Cond.selects "SecretRows" ⟨"SecretRows", "logFromTape", "(LSecretRows$Step;)I"⟩ ⟨"SecretRows", "logFromTape", "(LSecretRows$Step;)I"⟩ ∈ gW := ks_t (i := 7) (by decide +kernel) (by decide +kernel)
theorem ks_Main_rememberLeak : Cond.selects "SecretRows" ⟨"SecretRows", "rememberLeak", "(I)V"⟩ ⟨"SecretRows", "rememberLeak", "(I)V"⟩ ∈ gW := ks_t (i := 14) (by decide +kernel) (by decide +kernel)
theorem ks_Ref_isSecret : Cond.selects "SecretRowsModel" ⟨"SecretRowsModel", "isSecret", "(I)Z"⟩ ⟨"SecretRowsModel", "isSecret", "(I)Z"⟩ ∈ gW := ks_t (i := 15) (by decide +kernel) (by decide +kernel)
theorem ks_Ref_isTaped : Cond.selects "SecretRowsModel" ⟨"SecretRowsModel", "isTaped", "(II)Z"⟩ ⟨"SecretRowsModel", "isTaped", "(II)Z"⟩ ∈ gW := ks_t (i := 16) (by decide +kernel) (by decide +kernel)
theorem ks_Ref_isStep : Cond.selects "SecretRowsModel" ⟨"SecretRowsModel", "isStep", "(I)Z"⟩ ⟨"SecretRowsModel", "isStep", "(I)Z"⟩ ∈ gW := ks_t (i := 18) (by decide +kernel) (by decide +kernel)
theorem ks_Ref_keptOf : Cond.selects "SecretRowsModel" ⟨"SecretRowsModel", "keptOf", "(II)I"⟩ ⟨"SecretRowsModel", "keptOf", "(II)I"⟩ ∈ gW := ks_t (i := 17) (by decide +kernel) (by decide +kernel)
theorem ks_Ref_formLength : Cond.selects "SecretRowsModel" ⟨"SecretRowsModel", "formLength", "(II)I"⟩ ⟨"SecretRowsModel", "formLength", "(II)I"⟩ ∈ gW := ks_t (i := 22) (by decide +kernel) (by decide +kernel)
theorem ks_Ref_formSign : Cond.selects "SecretRowsModel" ⟨"SecretRowsModel", "formSign", "(III)I"⟩ ⟨"SecretRowsModel", "formSign", "(III)I"⟩ ∈ gW := ks_t (i := 23) (by decide +kernel) (by decide +kernel)
theorem ks_Ref_tell : Cond.selects "SecretRowsModel" ⟨"SecretRowsModel", "tell", "(II)V"⟩ ⟨"SecretRowsModel", "tell", "(II)V"⟩ ∈ gW := ks_t (i := 24) (by decide +kernel) (by decide +kernel)
theorem ks_Ref_counts : Cond.selects "SecretRowsModel" ⟨"SecretRowsModel", "counts", "(I)Z"⟩ ⟨"SecretRowsModel", "counts", "(I)Z"⟩ ∈ gW := ks_t (i := 20) (by decide +kernel) (by decide +kernel)
theorem ks_Ref_common : Cond.selects "SecretRowsModel" ⟨"SecretRowsModel", "common", "([IIIII)I"⟩ ⟨"SecretRowsModel", "common", "([IIIII)I"⟩ ∈ gW := ks_t (i := 21) (by decide +kernel) (by decide +kernel)
theorem ks_Ref_cover : Cond.selects "SecretRowsModel" ⟨"SecretRowsModel", "cover", "(IZ)V"⟩ ⟨"SecretRowsModel", "cover", "(IZ)V"⟩ ∈ gW := ks_t (i := 19) (by decide +kernel) (by decide +kernel)
theorem in_Text : ∀ w ∈ u_ws "SecretRows$Text" T_Text 2, w ∈ gW :=
  show ∀ w ∈ ([.laysFinal "SecretRows$Text" "SecretRows$Text" "row" "[C", .lays "SecretRows$Text" "SecretRows$Text" "length" "I"] : List Cond), w ∈ gW from
  List.forall_mem_cons.mpr ⟨kw_51, List.forall_mem_cons.mpr ⟨kw_53, fun _ h => absurd h List.not_mem_nil⟩⟩
theorem in_Value : ∀ w ∈ u_ws "SecretRows$Value" T_Value 4, w ∈ gW :=
  show ∀ w ∈ ([.laysFinal "SecretRows$Value" "SecretRows$Value" "number" "I", .laysFinal "SecretRows$Value" "SecretRows$Value" "text" "LSecretRows$Text;", .laysFinal "SecretRows$Value" "SecretRows$Value" "fromTheEnd" "LSecretRows$Text;", .laysFinal "SecretRows$Value" "SecretRows$Value" "byCodes" "LSecretRows$Text;"] : List Cond), w ∈ gW from
  List.forall_mem_cons.mpr ⟨kw_249, List.forall_mem_cons.mpr ⟨kw_251, List.forall_mem_cons.mpr ⟨kw_253, List.forall_mem_cons.mpr ⟨kw_255, fun _ h => absurd h List.not_mem_nil⟩⟩⟩⟩
theorem in_Secret : ∀ w ∈ u_ws "SecretRows$Secret" T_Secret 7, w ∈ gW :=
  show ∀ w ∈ ([.laysFinal "SecretRows$Secret" "SecretRows$Secret" "environments" "I", .laysFinal "SecretRows$Secret" "SecretRows$Secret" "branches" "I", .laysFinal "SecretRows$Secret" "SecretRows$Secret" "jobs" "I", .lays "SecretRows$Secret" "SecretRows$Secret" "value" "LSecretRows$Value;", .lays "SecretRows$Secret" "SecretRows$Secret" "old" "LSecretRows$Value;", .lays "SecretRows$Secret" "SecretRows$Secret" "oldEnd" "I", .lays "SecretRows$Secret" "SecretRows$Secret" "revoked" "Z"] : List Cond), w ∈ gW from
  List.forall_mem_cons.mpr ⟨kw_143, List.forall_mem_cons.mpr ⟨kw_145, List.forall_mem_cons.mpr ⟨kw_147, List.forall_mem_cons.mpr ⟨kw_149, List.forall_mem_cons.mpr ⟨kw_151, List.forall_mem_cons.mpr ⟨kw_153, List.forall_mem_cons.mpr ⟨kw_155, fun _ h => absurd h List.not_mem_nil⟩⟩⟩⟩⟩⟩⟩
theorem in_Log : ∀ w ∈ u_ws "SecretRows$Log" T_Log 5, w ∈ gW :=
  show ∀ w ∈ ([.laysFinal "SecretRows$Log" "SecretRows$Log" "came" "LSecretRows$Text;", .laysFinal "SecretRows$Log" "SecretRows$Log" "told" "LSecretRows$Text;", .lays "SecretRows$Log" "SecretRows$Log" "done" "I", .lays "SecretRows$Log" "SecretRows$Log" "covered" "I", .lays "SecretRows$Log" "SecretRows$Log" "closed" "Z"] : List Cond), w ∈ gW from
  List.forall_mem_cons.mpr ⟨kw_305, List.forall_mem_cons.mpr ⟨kw_307, List.forall_mem_cons.mpr ⟨kw_309, List.forall_mem_cons.mpr ⟨kw_311, List.forall_mem_cons.mpr ⟨kw_313, fun _ h => absurd h List.not_mem_nil⟩⟩⟩⟩⟩
theorem in_Step : ∀ w ∈ u_ws "SecretRows$Step" T_Step 2, w ∈ gW :=
  show ∀ w ∈ ([.laysFinal "SecretRows$Step" "SecretRows$Step" "kept" "[LSecretRows$Value;", .laysFinal "SecretRows$Step" "SecretRows$Step" "log" "LSecretRows$Log;"] : List Cond), w ∈ gW from
  List.forall_mem_cons.mpr ⟨kw_319, List.forall_mem_cons.mpr ⟨kw_321, fun _ h => absurd h List.not_mem_nil⟩⟩
theorem in_Token : ∀ w ∈ u_ws "SecretRows$Token" T_Token 3, w ∈ gW :=
  show ∀ w ∈ ([.laysFinal "SecretRows$Token" "SecretRows$Token" "secret" "I", .laysFinal "SecretRows$Token" "SecretRows$Token" "value" "LSecretRows$Value;", .laysFinal "SecretRows$Token" "SecretRows$Token" "end" "I"] : List Cond), w ∈ gW from
  List.forall_mem_cons.mpr ⟨kw_474, List.forall_mem_cons.mpr ⟨kw_476, List.forall_mem_cons.mpr ⟨kw_478, fun _ h => absurd h List.not_mem_nil⟩⟩⟩
theorem in_Audit : ∀ w ∈ u_ws "SecretRows$Audit" T_Audit 2, w ∈ gW :=
  show ∀ w ∈ ([.laysFinal "SecretRows$Audit" "SecretRows$Audit" "cells" "[I", .lays "SecretRows$Audit" "SecretRows$Audit" "rows" "I"] : List Cond), w ∈ gW from
  List.forall_mem_cons.mpr ⟨kw_34, List.forall_mem_cons.mpr ⟨kw_36, fun _ h => absurd h List.not_mem_nil⟩⟩
theorem in_Forms : ∀ w ∈ u_ws "SecretRows$Forms" T_Forms 5, w ∈ gW :=
  show ∀ w ∈ ([.laysFinal "SecretRows$Forms" "SecretRows$Forms" "texts" "[LSecretRows$Text;", .laysFinal "SecretRows$Forms" "SecretRows$Forms" "owners" "[I", .laysFinal "SecretRows$Forms" "SecretRows$Forms" "kinds" "[I", .laysFinal "SecretRows$Forms" "SecretRows$Forms" "olds" "[I", .lays "SecretRows$Forms" "SecretRows$Forms" "count" "I"] : List Cond), w ∈ gW from
  List.forall_mem_cons.mpr ⟨kw_70, List.forall_mem_cons.mpr ⟨kw_72, List.forall_mem_cons.mpr ⟨kw_74, List.forall_mem_cons.mpr ⟨kw_76, List.forall_mem_cons.mpr ⟨kw_78, fun _ h => absurd h List.not_mem_nil⟩⟩⟩⟩⟩
theorem in_Main : ∀ w ∈ u_ws "SecretRows" T_Main 14, w ∈ gW :=
  show ∀ w ∈ ([.laysFinal "SecretRows" "SecretRows" "secrets" "[LSecretRows$Secret;", .laysFinal "SecretRows" "SecretRows" "steps" "[LSecretRows$Step;", .laysFinal "SecretRows" "SecretRows" "tokens" "[LSecretRows$Token;", .laysFinal "SecretRows" "SecretRows" "readings" "LSecretRows$Audit;", .laysFinal "SecretRows" "SecretRows" "tape" "LSecretRows$Text;", .laysFinal "SecretRows" "SecretRows" "forms" "LSecretRows$Forms;", .lays "SecretRows" "SecretRows" "secretCount" "I", .lays "SecretRows" "SecretRows" "stepCount" "I", .lays "SecretRows" "SecretRows" "tokenCount" "I", .lays "SecretRows" "SecretRows" "valueCount" "I", .lays "SecretRows" "SecretRows" "clock" "I", .lays "SecretRows" "SecretRows" "leakSecret" "I", .lays "SecretRows" "SecretRows" "leakForm" "I", .lays "SecretRows" "SecretRows" "leakOld" "I"] : List Cond), w ∈ gW from
  List.forall_mem_cons.mpr ⟨kw_95, List.forall_mem_cons.mpr ⟨kw_97, List.forall_mem_cons.mpr ⟨kw_99, List.forall_mem_cons.mpr ⟨kw_101, List.forall_mem_cons.mpr ⟨kw_103, List.forall_mem_cons.mpr ⟨kw_105, List.forall_mem_cons.mpr ⟨kw_107, List.forall_mem_cons.mpr ⟨kw_109, List.forall_mem_cons.mpr ⟨kw_111, List.forall_mem_cons.mpr ⟨kw_113, List.forall_mem_cons.mpr ⟨kw_115, List.forall_mem_cons.mpr ⟨kw_117, List.forall_mem_cons.mpr ⟨kw_119, List.forall_mem_cons.mpr ⟨kw_121, fun _ h => absurd h List.not_mem_nil⟩⟩⟩⟩⟩⟩⟩⟩⟩⟩⟩⟩⟩⟩
theorem in_Ref : ∀ w ∈ u_ws "SecretRowsModel" T_Ref 36, w ∈ gW :=
  show ∀ w ∈ ([.lays "SecretRowsModel" "SecretRowsModel" "code" "I", .lays "SecretRowsModel" "SecretRowsModel" "clock" "I", .lays "SecretRowsModel" "SecretRowsModel" "secrets" "I", .lays "SecretRowsModel" "SecretRowsModel" "valuesMany" "I", .lays "SecretRowsModel" "SecretRowsModel" "steps" "I", .lays "SecretRowsModel" "SecretRowsModel" "tokens" "I", .lays "SecretRowsModel" "SecretRowsModel" "audits" "I", .laysFinal "SecretRowsModel" "SecretRowsModel" "whose" "[I", .laysFinal "SecretRowsModel" "SecretRowsModel" "length" "[I", .laysFinal "SecretRowsModel" "SecretRowsModel" "sign" "[I", .laysFinal "SecretRowsModel" "SecretRowsModel" "environments" "[I", .laysFinal "SecretRowsModel" "SecretRowsModel" "branches" "[I", .laysFinal "SecretRowsModel" "SecretRowsModel" "jobs" "[I", .laysFinal "SecretRowsModel" "SecretRowsModel" "value" "[I", .laysFinal "SecretRowsModel" "SecretRowsModel" "old" "[I", .laysFinal "SecretRowsModel" "SecretRowsModel" "till" "[I", .laysFinal "SecretRowsModel" "SecretRowsModel" "isRevoked" "[Z", .laysFinal "SecretRowsModel" "SecretRowsModel" "tape" "[I", .lays "SecretRowsModel" "SecretRowsModel" "taped" "I", .laysFinal "SecretRowsModel" "SecretRowsModel" "kept" "[I", .laysFinal "SecretRowsModel" "SecretRowsModel" "text" "[I", .laysFinal "SecretRowsModel" "SecretRowsModel" "size" "[I", .laysFinal "SecretRowsModel" "SecretRowsModel" "at" "[I", .laysFinal "SecretRowsModel" "SecretRowsModel" "told" "[I", .laysFinal "SecretRowsModel" "SecretRowsModel" "toldMany" "[I", .laysFinal "SecretRowsModel" "SecretRowsModel" "covered" "[I", .laysFinal "SecretRowsModel" "SecretRowsModel" "isClosed" "[Z", .laysFinal "SecretRowsModel" "SecretRowsModel" "auditStep" "[I", .laysFinal "SecretRowsModel" "SecretRowsModel" "auditSecret" "[I", .laysFinal "SecretRowsModel" "SecretRowsModel" "auditClock" "[I", .laysFinal "SecretRowsModel" "SecretRowsModel" "tokenSecret" "[I", .laysFinal "SecretRowsModel" "SecretRowsModel" "tokenValue" "[I", .laysFinal "SecretRowsModel" "SecretRowsModel" "tokenEnd" "[I", .lays "SecretRowsModel" "SecretRowsModel" "leakSecret" "I", .lays "SecretRowsModel" "SecretRowsModel" "leakForm" "I", .lays "SecretRowsModel" "SecretRowsModel" "leakOld" "I"] : List Cond), w ∈ gW from
  List.forall_mem_cons.mpr ⟨kw_556, List.forall_mem_cons.mpr ⟨kw_558, List.forall_mem_cons.mpr ⟨kw_560, List.forall_mem_cons.mpr ⟨kw_562, List.forall_mem_cons.mpr ⟨kw_564, List.forall_mem_cons.mpr ⟨kw_566, List.forall_mem_cons.mpr ⟨kw_568, List.forall_mem_cons.mpr ⟨kw_570, List.forall_mem_cons.mpr ⟨kw_572, List.forall_mem_cons.mpr ⟨kw_574, List.forall_mem_cons.mpr ⟨kw_576, List.forall_mem_cons.mpr ⟨kw_578, List.forall_mem_cons.mpr ⟨kw_580, List.forall_mem_cons.mpr ⟨kw_582, List.forall_mem_cons.mpr ⟨kw_584, List.forall_mem_cons.mpr ⟨kw_586, List.forall_mem_cons.mpr ⟨kw_588, List.forall_mem_cons.mpr ⟨kw_590, List.forall_mem_cons.mpr ⟨kw_592, List.forall_mem_cons.mpr ⟨kw_594, List.forall_mem_cons.mpr ⟨kw_596, List.forall_mem_cons.mpr ⟨kw_598, List.forall_mem_cons.mpr ⟨kw_600, List.forall_mem_cons.mpr ⟨kw_602, List.forall_mem_cons.mpr ⟨kw_604, List.forall_mem_cons.mpr ⟨kw_606, List.forall_mem_cons.mpr ⟨kw_608, List.forall_mem_cons.mpr ⟨kw_610, List.forall_mem_cons.mpr ⟨kw_612, List.forall_mem_cons.mpr ⟨kw_614, List.forall_mem_cons.mpr ⟨kw_616, List.forall_mem_cons.mpr ⟨kw_618, List.forall_mem_cons.mpr ⟨kw_620, List.forall_mem_cons.mpr ⟨kw_622, List.forall_mem_cons.mpr ⟨kw_624, List.forall_mem_cons.mpr ⟨kw_626, fun _ h => absurd h List.not_mem_nil⟩⟩⟩⟩⟩⟩⟩⟩⟩⟩⟩⟩⟩⟩⟩⟩⟩⟩⟩⟩⟩⟩⟩⟩⟩⟩⟩⟩⟩⟩⟩⟩⟩⟩⟩⟩
