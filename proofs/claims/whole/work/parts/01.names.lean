/-! names: R, fields in the order of declaration, methods, the words by their places in the table. Laid by wip/whole/main.py. -/
def lw_g : List Cond := lw_tbl.filter goodWord
def RX0 : String := "MailArbiter$Check"
def TX0 : u_T := fun k => match k with
  | 0 => ("MailArbiter$Check", "lookups", "I", false)
  | _ => ("MailArbiter$Check", "empties", "I", false)
def tyX0 : Nat → FieldType := fun k => match k with
  | 0 => .int
  | _ => .int
theorem nmX0 : ∀ a, a < 2 → ∀ b, b < 2 → a ≠ b → (TX0 a).2.1 ≠ (TX0 b).2.1 := by decide +kernel
theorem tyX0_ok : ∀ k, k < 2 → parseFieldDescriptor (TX0 k).2.2.1 = some (tyX0 k) := by decide +kernel
def RX1 : String := "MailArbiter$Domain"
def TX1 : u_T := fun k => match k with
  | 0 => ("MailArbiter$Domain", "suffix", "Z", false)
  | 1 => ("MailArbiter$Domain", "home", "I", false)
  | 2 => ("MailArbiter$Domain", "silent", "Z", false)
  | 3 => ("MailArbiter$Domain", "addresses", "LMailArbiter$Hosts;", true)
  | 4 => ("MailArbiter$Domain", "exchangers", "LMailArbiter$Hosts;", true)
  | 5 => ("MailArbiter$Domain", "rule", "LMailArbiter$Rule;", true)
  | 6 => ("MailArbiter$Domain", "keys", "[I", true)
  | _ => ("MailArbiter$Domain", "policy", "LMailArbiter$Policy;", true)
def tyX1 : Nat → FieldType := fun k => match k with
  | 0 => .boolean
  | 1 => .int
  | 2 => .boolean
  | 3 => .object "MailArbiter$Hosts"
  | 4 => .object "MailArbiter$Hosts"
  | 5 => .object "MailArbiter$Rule"
  | 6 => .array .int
  | _ => .object "MailArbiter$Policy"
theorem nmX1 : ∀ a, a < 8 → ∀ b, b < 8 → a ≠ b → (TX1 a).2.1 ≠ (TX1 b).2.1 := by decide +kernel
theorem tyX1_ok : ∀ k, k < 8 → parseFieldDescriptor (TX1 k).2.2.1 = some (tyX1 k) := by decide +kernel
def RX2 : String := "MailArbiter$Hosts"
def TX2 : u_T := fun k => match k with
  | 0 => ("MailArbiter$Hosts", "values", "[I", true)
  | _ => ("MailArbiter$Hosts", "count", "I", false)
def tyX2 : Nat → FieldType := fun k => match k with
  | 0 => .array .int
  | _ => .int
theorem nmX2 : ∀ a, a < 2 → ∀ b, b < 2 → a ≠ b → (TX2 a).2.1 ≠ (TX2 b).2.1 := by decide +kernel
theorem tyX2_ok : ∀ k, k < 2 → parseFieldDescriptor (TX2 k).2.2.1 = some (tyX2 k) := by decide +kernel
def RX3 : String := "MailArbiter$Link"
def TX3 : u_T := fun k => match k with
  | 0 => ("MailArbiter$Link", "signature", "LMailArbiter$Signature;", true)
  | 1 => ("MailArbiter$Link", "state", "I", false)
  | _ => ("MailArbiter$Link", "cover", "I", false)
def tyX3 : Nat → FieldType := fun k => match k with
  | 0 => .object "MailArbiter$Signature"
  | 1 => .int
  | _ => .int
theorem nmX3 : ∀ a, a < 3 → ∀ b, b < 3 → a ≠ b → (TX3 a).2.1 ≠ (TX3 b).2.1 := by decide +kernel
theorem tyX3_ok : ∀ k, k < 3 → parseFieldDescriptor (TX3 k).2.2.1 = some (tyX3 k) := by decide +kernel
def RX4 : String := "MailArbiter$Mail"
def TX4 : u_T := fun k => match k with
  | 0 => ("MailArbiter$Mail", "present", "Z", false)
  | 1 => ("MailArbiter$Mail", "sender", "I", false)
  | 2 => ("MailArbiter$Mail", "author", "I", false)
  | 3 => ("MailArbiter$Mail", "address", "I", false)
  | 4 => ("MailArbiter$Mail", "names", "[I", true)
  | 5 => ("MailArbiter$Mail", "headers", "[LMailArbiter$Text;", true)
  | 6 => ("MailArbiter$Mail", "headerCount", "I", false)
  | 7 => ("MailArbiter$Mail", "body", "LMailArbiter$Text;", true)
  | 8 => ("MailArbiter$Mail", "form", "LMailArbiter$Text;", true)
  | 9 => ("MailArbiter$Mail", "signatures", "[LMailArbiter$Signature;", true)
  | 10 => ("MailArbiter$Mail", "signatureCount", "I", false)
  | 11 => ("MailArbiter$Mail", "links", "[LMailArbiter$Link;", true)
  | _ => ("MailArbiter$Mail", "linkCount", "I", false)
def tyX4 : Nat → FieldType := fun k => match k with
  | 0 => .boolean
  | 1 => .int
  | 2 => .int
  | 3 => .int
  | 4 => .array .int
  | 5 => .array (.object "MailArbiter$Text")
  | 6 => .int
  | 7 => .object "MailArbiter$Text"
  | 8 => .object "MailArbiter$Text"
  | 9 => .array (.object "MailArbiter$Signature")
  | 10 => .int
  | 11 => .array (.object "MailArbiter$Link")
  | _ => .int
theorem nmX4 : ∀ a, a < 13 → ∀ b, b < 13 → a ≠ b → (TX4 a).2.1 ≠ (TX4 b).2.1 := by decide +kernel
theorem tyX4_ok : ∀ k, k < 13 → parseFieldDescriptor (TX4 k).2.2.1 = some (tyX4 k) := by decide +kernel
def RX5 : String := "MailArbiter$Policy"
def TX5 : u_T := fun k => match k with
  | 0 => ("MailArbiter$Policy", "present", "Z", false)
  | 1 => ("MailArbiter$Policy", "own", "I", false)
  | 2 => ("MailArbiter$Policy", "below", "I", false)
  | 3 => ("MailArbiter$Policy", "strict", "I", false)
  | _ => ("MailArbiter$Policy", "part", "I", false)
def tyX5 : Nat → FieldType := fun k => match k with
  | 0 => .boolean
  | 1 => .int
  | 2 => .int
  | 3 => .int
  | _ => .int
theorem nmX5 : ∀ a, a < 5 → ∀ b, b < 5 → a ≠ b → (TX5 a).2.1 ≠ (TX5 b).2.1 := by decide +kernel
theorem tyX5_ok : ∀ k, k < 5 → parseFieldDescriptor (TX5 k).2.2.1 = some (tyX5 k) := by decide +kernel
def RX6 : String := "MailArbiter$Row"
def TX6 : u_T := fun k => match k with
  | 0 => ("MailArbiter$Row", "home", "I", false)
  | 1 => ("MailArbiter$Row", "address", "I", false)
  | 2 => ("MailArbiter$Row", "done", "I", false)
  | 3 => ("MailArbiter$Row", "result", "I", false)
  | _ => ("MailArbiter$Row", "times", "I", false)
def tyX6 : Nat → FieldType := fun k => match k with
  | 0 => .int
  | 1 => .int
  | 2 => .int
  | 3 => .int
  | _ => .int
theorem nmX6 : ∀ a, a < 5 → ∀ b, b < 5 → a ≠ b → (TX6 a).2.1 ≠ (TX6 b).2.1 := by decide +kernel
theorem tyX6_ok : ∀ k, k < 5 → parseFieldDescriptor (TX6 k).2.2.1 = some (tyX6 k) := by decide +kernel
def RX7 : String := "MailArbiter$Rule"
def TX7 : u_T := fun k => match k with
  | 0 => ("MailArbiter$Rule", "present", "Z", false)
  | 1 => ("MailArbiter$Rule", "count", "I", false)
  | 2 => ("MailArbiter$Rule", "signs", "[I", true)
  | 3 => ("MailArbiter$Rule", "kinds", "[I", true)
  | 4 => ("MailArbiter$Rule", "values", "[I", true)
  | 5 => ("MailArbiter$Rule", "lengths", "[I", true)
  | _ => ("MailArbiter$Rule", "redirect", "I", false)
def tyX7 : Nat → FieldType := fun k => match k with
  | 0 => .boolean
  | 1 => .int
  | 2 => .array .int
  | 3 => .array .int
  | 4 => .array .int
  | 5 => .array .int
  | _ => .int
theorem nmX7 : ∀ a, a < 7 → ∀ b, b < 7 → a ≠ b → (TX7 a).2.1 ≠ (TX7 b).2.1 := by decide +kernel
theorem tyX7_ok : ∀ k, k < 7 → parseFieldDescriptor (TX7 k).2.2.1 = some (tyX7 k) := by decide +kernel
def RX8 : String := "MailArbiter$Signature"
def TX8 : u_T := fun k => match k with
  | 0 => ("MailArbiter$Signature", "domain", "I", false)
  | 1 => ("MailArbiter$Signature", "selector", "I", false)
  | 2 => ("MailArbiter$Signature", "way", "I", false)
  | 3 => ("MailArbiter$Signature", "names", "I", false)
  | 4 => ("MailArbiter$Signature", "limit", "I", false)
  | 5 => ("MailArbiter$Signature", "expires", "I", false)
  | 6 => ("MailArbiter$Signature", "bodyDigest", "I", false)
  | _ => ("MailArbiter$Signature", "seal", "I", false)
def tyX8 : Nat → FieldType := fun k => match k with
  | 0 => .int
  | 1 => .int
  | 2 => .int
  | 3 => .int
  | 4 => .int
  | 5 => .int
  | 6 => .int
  | _ => .int
theorem nmX8 : ∀ a, a < 8 → ∀ b, b < 8 → a ≠ b → (TX8 a).2.1 ≠ (TX8 b).2.1 := by decide +kernel
theorem tyX8_ok : ∀ k, k < 8 → parseFieldDescriptor (TX8 k).2.2.1 = some (tyX8 k) := by decide +kernel
def RX9 : String := "MailArbiter$Text"
def TX9 : u_T := fun k => match k with
  | 0 => ("MailArbiter$Text", "characters", "[I", true)
  | _ => ("MailArbiter$Text", "count", "I", false)
def tyX9 : Nat → FieldType := fun k => match k with
  | 0 => .array .int
  | _ => .int
theorem nmX9 : ∀ a, a < 2 → ∀ b, b < 2 → a ≠ b → (TX9 a).2.1 ≠ (TX9 b).2.1 := by decide +kernel
theorem tyX9_ok : ∀ k, k < 2 → parseFieldDescriptor (TX9 k).2.2.1 = some (tyX9 k) := by decide +kernel
def RX10 : String := "MailArbiter"
def TX10 : u_T := fun k => match k with
  | 0 => ("MailArbiter", "domains", "[LMailArbiter$Domain;", true)
  | 1 => ("MailArbiter", "domainCount", "I", false)
  | 2 => ("MailArbiter", "noPolicy", "LMailArbiter$Policy;", true)
  | 3 => ("MailArbiter", "mail", "LMailArbiter$Mail;", true)
  | 4 => ("MailArbiter", "check", "LMailArbiter$Check;", true)
  | 5 => ("MailArbiter", "rows", "[LMailArbiter$Row;", true)
  | 6 => ("MailArbiter", "rowCount", "I", false)
  | _ => ("MailArbiter", "time", "I", false)
def tyX10 : Nat → FieldType := fun k => match k with
  | 0 => .array (.object "MailArbiter$Domain")
  | 1 => .int
  | 2 => .object "MailArbiter$Policy"
  | 3 => .object "MailArbiter$Mail"
  | 4 => .object "MailArbiter$Check"
  | 5 => .array (.object "MailArbiter$Row")
  | 6 => .int
  | _ => .int
theorem nmX10 : ∀ a, a < 8 → ∀ b, b < 8 → a ≠ b → (TX10 a).2.1 ≠ (TX10 b).2.1 := by decide +kernel
theorem tyX10_ok : ∀ k, k < 8 → parseFieldDescriptor (TX10 k).2.2.1 = some (tyX10 k) := by decide +kernel
def RX11 : String := "MailArbiterModel"
def TX11 : u_T := fun k => match k with
  | 0 => ("MailArbiterModel", "domains", "I", false)
  | 1 => ("MailArbiterModel", "parents", "[I", true)
  | 2 => ("MailArbiterModel", "suffixes", "[Z", true)
  | 3 => ("MailArbiterModel", "silents", "[Z", true)
  | 4 => ("MailArbiterModel", "hosts", "[I", true)
  | 5 => ("MailArbiterModel", "hostMany", "[I", true)
  | 6 => ("MailArbiterModel", "ruled", "[Z", true)
  | 7 => ("MailArbiterModel", "terms", "[I", true)
  | 8 => ("MailArbiterModel", "signs", "[I", true)
  | 9 => ("MailArbiterModel", "kinds", "[I", true)
  | 10 => ("MailArbiterModel", "values", "[I", true)
  | 11 => ("MailArbiterModel", "bits", "[I", true)
  | 12 => ("MailArbiterModel", "redirects", "[I", true)
  | 13 => ("MailArbiterModel", "keys", "[I", true)
  | 14 => ("MailArbiterModel", "own", "[I", true)
  | 15 => ("MailArbiterModel", "below", "[I", true)
  | 16 => ("MailArbiterModel", "stricts", "[I", true)
  | 17 => ("MailArbiterModel", "parts", "[I", true)
  | 18 => ("MailArbiterModel", "time", "I", false)
  | 19 => ("MailArbiterModel", "mailed", "Z", false)
  | 20 => ("MailArbiterModel", "from", "I", false)
  | 21 => ("MailArbiterModel", "author", "I", false)
  | 22 => ("MailArbiterModel", "address", "I", false)
  | 23 => ("MailArbiterModel", "headers", "I", false)
  | 24 => ("MailArbiterModel", "names", "[I", true)
  | 25 => ("MailArbiterModel", "sizes", "[I", true)
  | 26 => ("MailArbiterModel", "texts", "[I", true)
  | 27 => ("MailArbiterModel", "bodySize", "I", false)
  | 28 => ("MailArbiterModel", "body", "[I", true)
  | 29 => ("MailArbiterModel", "signatures", "I", false)
  | 30 => ("MailArbiterModel", "byDomain", "[I", true)
  | 31 => ("MailArbiterModel", "bySelector", "[I", true)
  | 32 => ("MailArbiterModel", "ways", "[I", true)
  | 33 => ("MailArbiterModel", "covered", "[I", true)
  | 34 => ("MailArbiterModel", "limits", "[I", true)
  | 35 => ("MailArbiterModel", "ends", "[I", true)
  | 36 => ("MailArbiterModel", "bodyDigests", "[I", true)
  | 37 => ("MailArbiterModel", "seals", "[I", true)
  | 38 => ("MailArbiterModel", "links", "I", false)
  | 39 => ("MailArbiterModel", "states", "[I", true)
  | 40 => ("MailArbiterModel", "covers", "[I", true)
  | 41 => ("MailArbiterModel", "canonSize", "I", false)
  | 42 => ("MailArbiterModel", "canon", "[I", true)
  | 43 => ("MailArbiterModel", "mixed", "J", false)
  | 44 => ("MailArbiterModel", "lookups", "I", false)
  | 45 => ("MailArbiterModel", "empties", "I", false)
  | 46 => ("MailArbiterModel", "deep", "I", false)
  | 47 => ("MailArbiterModel", "who", "[I", true)
  | 48 => ("MailArbiterModel", "place", "[I", true)
  | 49 => ("MailArbiterModel", "rows", "I", false)
  | 50 => ("MailArbiterModel", "rowHome", "[I", true)
  | 51 => ("MailArbiterModel", "rowAddress", "[I", true)
  | 52 => ("MailArbiterModel", "rowDone", "[I", true)
  | 53 => ("MailArbiterModel", "rowResult", "[I", true)
  | _ => ("MailArbiterModel", "rowCount", "[I", true)
def tyX11 : Nat → FieldType := fun k => match k with
  | 0 => .int
  | 1 => .array .int
  | 2 => .array .boolean
  | 3 => .array .boolean
  | 4 => .array .int
  | 5 => .array .int
  | 6 => .array .boolean
  | 7 => .array .int
  | 8 => .array .int
  | 9 => .array .int
  | 10 => .array .int
  | 11 => .array .int
  | 12 => .array .int
  | 13 => .array .int
  | 14 => .array .int
  | 15 => .array .int
  | 16 => .array .int
  | 17 => .array .int
  | 18 => .int
  | 19 => .boolean
  | 20 => .int
  | 21 => .int
  | 22 => .int
  | 23 => .int
  | 24 => .array .int
  | 25 => .array .int
  | 26 => .array .int
  | 27 => .int
  | 28 => .array .int
  | 29 => .int
  | 30 => .array .int
  | 31 => .array .int
  | 32 => .array .int
  | 33 => .array .int
  | 34 => .array .int
  | 35 => .array .int
  | 36 => .array .int
  | 37 => .array .int
  | 38 => .int
  | 39 => .array .int
  | 40 => .array .int
  | 41 => .int
  | 42 => .array .int
  | 43 => .long
  | 44 => .int
  | 45 => .int
  | 46 => .int
  | 47 => .array .int
  | 48 => .array .int
  | 49 => .int
  | 50 => .array .int
  | 51 => .array .int
  | 52 => .array .int
  | 53 => .array .int
  | _ => .array .int
theorem nmX11 : ∀ a, a < 55 → ∀ b, b < 55 → a ≠ b → (TX11 a).2.1 ≠ (TX11 b).2.1 := by decide +kernel
theorem tyX11_ok : ∀ k, k < 55 → parseFieldDescriptor (TX11 k).2.2.1 = some (tyX11 k) := by decide +kernel
def RL : String := "MailArbiterLaw"
abbrev vwCl : List vw_C := [(RX0, TX0, 2), (RX1, TX1, 8), (RX2, TX2, 2), (RX3, TX3, 3), (RX4, TX4, 13), (RX5, TX5, 5), (RX6, TX6, 5), (RX7, TX7, 7), (RX8, TX8, 8), (RX9, TX9, 2), (RX10, TX10, 8), (RX11, TX11, 55)]
abbrev cX10_init : ByteArray := prog_1_method_1_code
def yX10_init : MethodName := ⟨RX10, "<init>", "()V"⟩
abbrev wsX10_init : List Cond := Cond.code yX10_init cX10_init 2 none :: lw_g
abbrev cX1_init : ByteArray := prog_3_method_1_code
def yX1_init : MethodName := ⟨RX1, "<init>", "()V"⟩
abbrev wsX1_init : List Cond := Cond.code yX1_init cX1_init 1 none :: lw_g
abbrev cX2_init : ByteArray := prog_4_method_1_code
def yX2_init : MethodName := ⟨RX2, "<init>", "()V"⟩
abbrev wsX2_init : List Cond := Cond.code yX2_init cX2_init 1 none :: lw_g
abbrev cX7_init : ByteArray := prog_9_method_1_code
def yX7_init : MethodName := ⟨RX7, "<init>", "()V"⟩
abbrev wsX7_init : List Cond := Cond.code yX7_init cX7_init 1 none :: lw_g
abbrev cX5_init : ByteArray := prog_7_method_1_code
def yX5_init : MethodName := ⟨RX5, "<init>", "()V"⟩
abbrev wsX5_init : List Cond := Cond.code yX5_init cX5_init 1 none :: lw_g
abbrev cX4_init : ByteArray := prog_6_method_1_code
def yX4_init : MethodName := ⟨RX4, "<init>", "()V"⟩
abbrev wsX4_init : List Cond := Cond.code yX4_init cX4_init 2 none :: lw_g
abbrev cX9_init : ByteArray := prog_11_method_1_code
def yX9_init : MethodName := ⟨RX9, "<init>", "(I)V"⟩
abbrev wsX9_init : List Cond := Cond.code yX9_init cX9_init 2 none :: lw_g
abbrev cX8_init : ByteArray := prog_10_method_1_code
def yX8_init : MethodName := ⟨RX8, "<init>", "()V"⟩
abbrev wsX8_init : List Cond := Cond.code yX8_init cX8_init 1 none :: lw_g
abbrev cX3_init : ByteArray := prog_5_method_1_code
def yX3_init : MethodName := ⟨RX3, "<init>", "()V"⟩
abbrev wsX3_init : List Cond := Cond.code yX3_init cX3_init 1 none :: lw_g
abbrev cX0_init : ByteArray := prog_2_method_1_code
def yX0_init : MethodName := ⟨RX0, "<init>", "()V"⟩
abbrev wsX0_init : List Cond := Cond.code yX0_init cX0_init 1 none :: lw_g
abbrev cX6_init : ByteArray := prog_8_method_1_code
def yX6_init : MethodName := ⟨RX6, "<init>", "()V"⟩
abbrev wsX6_init : List Cond := Cond.code yX6_init cX6_init 1 none :: lw_g
abbrev cX10_domain : ByteArray := prog_1_method_2_code
def yX10_domain : MethodName := ⟨RX10, "domain", "(IZ)I"⟩
abbrev wsX10_domain : List Cond := Cond.code yX10_domain cX10_domain 4 (some .int) :: lw_g
abbrev cX10_isDomain : ByteArray := prog_1_method_33_code
def yX10_isDomain : MethodName := ⟨RX10, "isDomain", "(I)Z"⟩
abbrev wsX10_isDomain : List Cond := Cond.code yX10_isDomain cX10_isDomain 2 (some .boolean) :: lw_g
abbrev cX10_isWithin : ByteArray := prog_1_method_23_code
def yX10_isWithin : MethodName := ⟨RX10, "isWithin", "(III)Z"⟩
abbrev wsX10_isWithin : List Cond := Cond.code yX10_isWithin cX10_isWithin 3 (some .boolean) :: lw_g
abbrev cX10_homeUnder : ByteArray := prog_1_method_36_code
def yX10_homeUnder : MethodName := ⟨RX10, "homeUnder", "(II)I"⟩
abbrev wsX10_homeUnder : List Cond := Cond.code yX10_homeUnder cX10_homeUnder 3 (some .int) :: lw_g
abbrev cX10_home : ByteArray := prog_1_method_3_code
def yX10_home : MethodName := ⟨RX10, "home", "(I)I"⟩
abbrev wsX10_home : List Cond := Cond.code yX10_home cX10_home 2 (some .int) :: lw_g
abbrev cX10_silent : ByteArray := prog_1_method_4_code
def yX10_silent : MethodName := ⟨RX10, "silent", "(IZ)Z"⟩
abbrev wsX10_silent : List Cond := Cond.code yX10_silent cX10_silent 3 (some .boolean) :: lw_g
abbrev cX10_host : ByteArray := prog_1_method_5_code
def yX10_host : MethodName := ⟨RX10, "host", "(III)I"⟩
abbrev wsX10_host : List Cond := Cond.code yX10_host cX10_host 4 (some .int) :: lw_g
abbrev cX2_append : ByteArray := prog_4_method_2_code
def yX2_append : MethodName := ⟨RX2, "append", "(I)I"⟩
abbrev wsX2_append : List Cond := Cond.code yX2_append cX2_append 2 (some .int) :: lw_g
abbrev cX10_rule : ByteArray := prog_1_method_6_code
def yX10_rule : MethodName := ⟨RX10, "rule", "(IIIII)I"⟩
abbrev wsX10_rule : List Cond := Cond.code yX10_rule cX10_rule 7 (some .int) :: lw_g
abbrev cX7_redirectTo : ByteArray := prog_9_method_3_code
def yX7_redirectTo : MethodName := ⟨RX7, "redirectTo", "(I)I"⟩
abbrev wsX7_redirectTo : List Cond := Cond.code yX7_redirectTo cX7_redirectTo 2 (some .int) :: lw_g
abbrev cX10_hasLength : ByteArray := prog_1_method_25_code
def yX10_hasLength : MethodName := ⟨RX10, "hasLength", "(I)Z"⟩
abbrev wsX10_hasLength : List Cond := Cond.code yX10_hasLength cX10_hasLength 1 (some .boolean) :: lw_g
abbrev cX7_append : ByteArray := prog_9_method_2_code
def yX7_append : MethodName := ⟨RX7, "append", "(IIII)I"⟩
abbrev wsX7_append : List Cond := Cond.code yX7_append cX7_append 5 (some .int) :: lw_g
abbrev cX10_key : ByteArray := prog_1_method_7_code
def yX10_key : MethodName := ⟨RX10, "key", "(III)Z"⟩
abbrev wsX10_key : List Cond := Cond.code yX10_key cX10_key 4 (some .boolean) :: lw_g
abbrev cX10_isSelector : ByteArray := prog_1_method_24_code
def yX10_isSelector : MethodName := ⟨RX10, "isSelector", "(I)Z"⟩
abbrev wsX10_isSelector : List Cond := Cond.code yX10_isSelector cX10_isSelector 1 (some .boolean) :: lw_g
abbrev cX10_policy : ByteArray := prog_1_method_8_code
def yX10_policy : MethodName := ⟨RX10, "policy", "(IIIII)Z"⟩
abbrev wsX10_policy : List Cond := Cond.code yX10_policy cX10_policy 7 (some .boolean) :: lw_g
abbrev cX5_fill : ByteArray := prog_7_method_2_code
def yX5_fill : MethodName := ⟨RX5, "fill", "(IIII)V"⟩
abbrev wsX5_fill : List Cond := Cond.code yX5_fill cX5_fill 5 none :: lw_g
abbrev cX10_mail : ByteArray := prog_1_method_9_code
def yX10_mail : MethodName := ⟨RX10, "mail", "(III)Z"⟩
abbrev wsX10_mail : List Cond := Cond.code yX10_mail cX10_mail 4 (some .boolean) :: lw_g
abbrev cX4_begin : ByteArray := prog_6_method_2_code
def yX4_begin : MethodName := ⟨RX4, "begin", "(III)V"⟩
abbrev wsX4_begin : List Cond := Cond.code yX4_begin cX4_begin 4 none :: lw_g
abbrev cX10_header : ByteArray := prog_1_method_10_code
def yX10_header : MethodName := ⟨RX10, "header", "(I)I"⟩
abbrev wsX10_header : List Cond := Cond.code yX10_header cX10_header 2 (some .int) :: lw_g
abbrev cX4_appendHeader : ByteArray := prog_6_method_3_code
def yX4_appendHeader : MethodName := ⟨RX4, "appendHeader", "(I)I"⟩
abbrev wsX4_appendHeader : List Cond := Cond.code yX4_appendHeader cX4_appendHeader 2 (some .int) :: lw_g
abbrev cX10_type : ByteArray := prog_1_method_11_code
def yX10_type : MethodName := ⟨RX10, "type", "(IJI)I"⟩
abbrev wsX10_type : List Cond := Cond.code yX10_type cX10_type 6 (some .int) :: lw_g
abbrev cX4_partAt : ByteArray := prog_6_method_4_code
def yX4_partAt : MethodName := ⟨RX4, "partAt", "(I)LMailArbiter$Text;"⟩
abbrev wsX4_partAt : List Cond := Cond.code yX4_partAt cX4_partAt 2 (some (.object "MailArbiter$Text")) :: lw_g
abbrev cX10_areAllowed : ByteArray := prog_1_method_27_code
def yX10_areAllowed : MethodName := ⟨RX10, "areAllowed", "(JIZ)Z"⟩
abbrev wsX10_areAllowed : List Cond := Cond.code yX10_areAllowed cX10_areAllowed 7 (some .boolean) :: lw_g
abbrev cX10_byteAt : ByteArray := prog_1_method_28_code
def yX10_byteAt : MethodName := ⟨RX10, "byteAt", "(JI)I"⟩
abbrev wsX10_byteAt : List Cond := Cond.code yX10_byteAt cX10_byteAt 3 (some .int) :: lw_g
abbrev cX9_appendBytes : ByteArray := prog_11_method_2_code
def yX9_appendBytes : MethodName := ⟨RX9, "appendBytes", "(JI)I"⟩
abbrev wsX9_appendBytes : List Cond := Cond.code yX9_appendBytes cX9_appendBytes 5 (some .int) :: lw_g
abbrev cX9_append : ByteArray := prog_11_method_6_code
def yX9_append : MethodName := ⟨RX9, "append", "(I)V"⟩
abbrev wsX9_append : List Cond := Cond.code yX9_append cX9_append 2 none :: lw_g
abbrev cX10_length : ByteArray := prog_1_method_12_code
def yX10_length : MethodName := ⟨RX10, "length", "(IZ)I"⟩
abbrev wsX10_length : List Cond := Cond.code yX10_length cX10_length 4 (some .int) :: lw_g
abbrev cX4_bodyForm : ByteArray := prog_6_method_6_code
def yX4_bodyForm : MethodName := ⟨RX4, "bodyForm", "(Z)LMailArbiter$Text;"⟩
abbrev wsX4_bodyForm : List Cond := Cond.code yX4_bodyForm cX4_bodyForm 2 (some (.object "MailArbiter$Text")) :: lw_g
abbrev cX9_becomeRelaxed : ByteArray := prog_11_method_4_code
def yX9_becomeRelaxed : MethodName := ⟨RX9, "becomeRelaxed", "(LMailArbiter$Text;Z)V"⟩
abbrev wsX9_becomeRelaxed : List Cond := Cond.code yX9_becomeRelaxed cX9_becomeRelaxed 6 none :: lw_g
abbrev cX10_isBlank : ByteArray := prog_1_method_26_code
def yX10_isBlank : MethodName := ⟨RX10, "isBlank", "(I)Z"⟩
abbrev wsX10_isBlank : List Cond := Cond.code yX10_isBlank cX10_isBlank 1 (some .boolean) :: lw_g
abbrev cX9_becomeSimple : ByteArray := prog_11_method_3_code
def yX9_becomeSimple : MethodName := ⟨RX9, "becomeSimple", "(LMailArbiter$Text;)V"⟩
abbrev wsX9_becomeSimple : List Cond := Cond.code yX9_becomeSimple cX9_becomeSimple 3 none :: lw_g
abbrev cX9_endWithOneLineEnd : ByteArray := prog_11_method_5_code
def yX9_endWithOneLineEnd : MethodName := ⟨RX9, "endWithOneLineEnd", "()V"⟩
abbrev wsX9_endWithOneLineEnd : List Cond := Cond.code yX9_endWithOneLineEnd cX9_endWithOneLineEnd 1 none :: lw_g
abbrev cX4_headerForm : ByteArray := prog_6_method_5_code
def yX4_headerForm : MethodName := ⟨RX4, "headerForm", "(LMailArbiter$Text;Z)LMailArbiter$Text;"⟩
abbrev wsX4_headerForm : List Cond := Cond.code yX4_headerForm cX4_headerForm 3 (some (.object "MailArbiter$Text")) :: lw_g
abbrev cX10_sign : ByteArray := prog_1_method_13_code
def yX10_sign : MethodName := ⟨RX10, "sign", "(IIIII)I"⟩
abbrev wsX10_sign : List Cond := Cond.code yX10_sign cX10_sign 9 (some .int) :: lw_g
abbrev cX10_hasKey : ByteArray := prog_1_method_35_code
def yX10_hasKey : MethodName := ⟨RX10, "hasKey", "(II)Z"⟩
abbrev wsX10_hasKey : List Cond := Cond.code yX10_hasKey cX10_hasKey 3 (some .boolean) :: lw_g
abbrev cX4_nextSignature : ByteArray := prog_6_method_7_code
def yX4_nextSignature : MethodName := ⟨RX4, "nextSignature", "()LMailArbiter$Signature;"⟩
abbrev wsX4_nextSignature : List Cond := Cond.code yX4_nextSignature cX4_nextSignature 1 (some (.object "MailArbiter$Signature")) :: lw_g
abbrev cX8_fill : ByteArray := prog_10_method_2_code
def yX8_fill : MethodName := ⟨RX8, "fill", "(IIIIII)V"⟩
abbrev wsX8_fill : List Cond := Cond.code yX8_fill cX8_fill 7 none :: lw_g
abbrev cX4_seal : ByteArray := prog_6_method_9_code
def yX4_seal : MethodName := ⟨RX4, "seal", "(LMailArbiter$Signature;I)V"⟩
abbrev wsX4_seal : List Cond := Cond.code yX4_seal cX4_seal 3 none :: lw_g
abbrev cX4_bodyDigestFor : ByteArray := prog_6_method_10_code
def yX4_bodyDigestFor : MethodName := ⟨RX4, "bodyDigestFor", "(LMailArbiter$Signature;)I"⟩
abbrev wsX4_bodyDigestFor : List Cond := Cond.code yX4_bodyDigestFor cX4_bodyDigestFor 3 (some .int) :: lw_g
abbrev cX8_isBodyRelaxed : ByteArray := prog_10_method_3_code
def yX8_isBodyRelaxed : MethodName := ⟨RX8, "isBodyRelaxed", "()Z"⟩
abbrev wsX8_isBodyRelaxed : List Cond := Cond.code yX8_isBodyRelaxed cX8_isBodyRelaxed 1 (some .boolean) :: lw_g
abbrev cX10_mixText : ByteArray := prog_1_method_31_code
def yX10_mixText : MethodName := ⟨RX10, "mixText", "(JLMailArbiter$Text;I)J"⟩
abbrev wsX10_mixText : List Cond := Cond.code yX10_mixText cX10_mixText 7 (some .long) :: lw_g
abbrev cX10_mix : ByteArray := prog_1_method_30_code
def yX10_mix : MethodName := ⟨RX10, "mix", "(JI)J"⟩
abbrev wsX10_mix : List Cond := Cond.code yX10_mix cX10_mix 5 (some .long) :: lw_g
abbrev cX10_digestOf : ByteArray := prog_1_method_32_code
def yX10_digestOf : MethodName := ⟨RX10, "digestOf", "(J)I"⟩
abbrev wsX10_digestOf : List Cond := Cond.code yX10_digestOf cX10_digestOf 2 (some .int) :: lw_g
abbrev cX4_sealFor : ByteArray := prog_6_method_11_code
def yX4_sealFor : MethodName := ⟨RX4, "sealFor", "(LMailArbiter$Signature;I)I"⟩
abbrev wsX4_sealFor : List Cond := Cond.code yX4_sealFor cX4_sealFor 7 (some .int) :: lw_g
abbrev cX8_hasName : ByteArray := prog_10_method_5_code
def yX8_hasName : MethodName := ⟨RX8, "hasName", "(I)Z"⟩
abbrev wsX8_hasName : List Cond := Cond.code yX8_hasName cX8_hasName 2 (some .boolean) :: lw_g
abbrev cX8_isHeaderRelaxed : ByteArray := prog_10_method_4_code
def yX8_isHeaderRelaxed : MethodName := ⟨RX8, "isHeaderRelaxed", "()Z"⟩
abbrev wsX8_isHeaderRelaxed : List Cond := Cond.code yX8_isHeaderRelaxed cX8_isHeaderRelaxed 1 (some .boolean) :: lw_g
abbrev cX10_spoil : ByteArray := prog_1_method_14_code
def yX10_spoil : MethodName := ⟨RX10, "spoil", "(II)Z"⟩
abbrev wsX10_spoil : List Cond := Cond.code yX10_spoil cX10_spoil 3 (some .boolean) :: lw_g
abbrev cX10_isSignature : ByteArray := prog_1_method_34_code
def yX10_isSignature : MethodName := ⟨RX10, "isSignature", "(I)Z"⟩
abbrev wsX10_isSignature : List Cond := Cond.code yX10_isSignature cX10_isSignature 2 (some .boolean) :: lw_g
abbrev cX10_signature : ByteArray := prog_1_method_15_code
def yX10_signature : MethodName := ⟨RX10, "signature", "(I)I"⟩
abbrev wsX10_signature : List Cond := Cond.code yX10_signature cX10_signature 2 (some .int) :: lw_g
abbrev cX10_checkSignature : ByteArray := prog_1_method_37_code
def yX10_checkSignature : MethodName := ⟨RX10, "checkSignature", "(LMailArbiter$Signature;)I"⟩
abbrev wsX10_checkSignature : List Cond := Cond.code yX10_checkSignature cX10_checkSignature 5 (some .int) :: lw_g
abbrev cX10_sender : ByteArray := prog_1_method_16_code
def yX10_sender : MethodName := ⟨RX10, "sender", "()I"⟩
abbrev wsX10_sender : List Cond := Cond.code yX10_sender cX10_sender 1 (some .int) :: lw_g
abbrev cX0_start : ByteArray := prog_2_method_2_code
def yX0_start : MethodName := ⟨RX0, "start", "([LMailArbiter$Domain;II)I"⟩
abbrev wsX0_start : List Cond := Cond.code yX0_start cX0_start 4 (some .int) :: lw_g
abbrev cX0_resultBy : ByteArray := prog_2_method_3_code
def yX0_resultBy : MethodName := ⟨RX0, "resultBy", "([LMailArbiter$Domain;II)I"⟩
abbrev wsX0_resultBy : List Cond := Cond.code yX0_resultBy cX0_resultBy 7 (some .int) :: lw_g
abbrev cX0_outcomeOf : ByteArray := prog_2_method_5_code
def yX0_outcomeOf : MethodName := ⟨RX0, "outcomeOf", "([LMailArbiter$Domain;LMailArbiter$Rule;II)I"⟩
abbrev wsX0_outcomeOf : List Cond := Cond.code yX0_outcomeOf cX0_outcomeOf 9 (some .int) :: lw_g
abbrev cX10_agree : ByteArray := prog_1_method_29_code
def yX10_agree : MethodName := ⟨RX10, "agree", "(III)Z"⟩
abbrev wsX10_agree : List Cond := Cond.code yX10_agree cX10_agree 3 (some .boolean) :: lw_g
abbrev cX0_matchIf : ByteArray := prog_2_method_10_code
def yX0_matchIf : MethodName := ⟨RX0, "matchIf", "(Z)I"⟩
abbrev wsX0_matchIf : List Cond := Cond.code yX0_matchIf cX0_matchIf 1 (some .int) :: lw_g
abbrev cX0_isLookupTooMany : ByteArray := prog_2_method_9_code
def yX0_isLookupTooMany : MethodName := ⟨RX0, "isLookupTooMany", "()Z"⟩
abbrev wsX0_isLookupTooMany : List Cond := Cond.code yX0_isLookupTooMany cX0_isLookupTooMany 1 (some .boolean) :: lw_g
abbrev cX0_including : ByteArray := prog_2_method_6_code
def yX0_including : MethodName := ⟨RX0, "including", "([LMailArbiter$Domain;II)I"⟩
abbrev wsX0_including : List Cond := Cond.code yX0_including cX0_including 6 (some .int) :: lw_g
abbrev cX0_empty : ByteArray := prog_2_method_8_code
def yX0_empty : MethodName := ⟨RX0, "empty", "()I"⟩
abbrev wsX0_empty : List Cond := Cond.code yX0_empty cX0_empty 1 (some .int) :: lw_g
abbrev cX0_exchangers : ByteArray := prog_2_method_7_code
def yX0_exchangers : MethodName := ⟨RX0, "exchangers", "([LMailArbiter$Domain;LMailArbiter$Hosts;II)I"⟩
abbrev wsX0_exchangers : List Cond := Cond.code yX0_exchangers cX0_exchangers 7 (some .int) :: lw_g
abbrev cX2_holdOneLike : ByteArray := prog_4_method_3_code
def yX2_holdOneLike : MethodName := ⟨RX2, "holdOneLike", "(II)Z"⟩
abbrev wsX2_holdOneLike : List Cond := Cond.code yX2_holdOneLike cX2_holdOneLike 4 (some .boolean) :: lw_g
abbrev cX0_redirected : ByteArray := prog_2_method_4_code
def yX0_redirected : MethodName := ⟨RX0, "redirected", "([LMailArbiter$Domain;II)I"⟩
abbrev wsX0_redirected : List Cond := Cond.code yX0_redirected cX0_redirected 5 (some .int) :: lw_g
abbrev cX10_counted : ByteArray := prog_1_method_17_code
def yX10_counted : MethodName := ⟨RX10, "counted", "(I)I"⟩
abbrev wsX10_counted : List Cond := Cond.code yX10_counted cX10_counted 2 (some .int) :: lw_g
abbrev cX10_chain : ByteArray := prog_1_method_18_code
def yX10_chain : MethodName := ⟨RX10, "chain", "()I"⟩
abbrev wsX10_chain : List Cond := Cond.code yX10_chain cX10_chain 1 (some .int) :: lw_g
abbrev cX10_chainState : ByteArray := prog_1_method_38_code
def yX10_chainState : MethodName := ⟨RX10, "chainState", "()I"⟩
abbrev wsX10_chainState : List Cond := Cond.code yX10_chainState cX10_chainState 2 (some .int) :: lw_g
abbrev cX10_isLinkGood : ByteArray := prog_1_method_39_code
def yX10_isLinkGood : MethodName := ⟨RX10, "isLinkGood", "(I)Z"⟩
abbrev wsX10_isLinkGood : List Cond := Cond.code yX10_isLinkGood cX10_isLinkGood 6 (some .boolean) :: lw_g
abbrev cX4_coverFor : ByteArray := prog_6_method_12_code
def yX4_coverFor : MethodName := ⟨RX4, "coverFor", "(II)I"⟩
abbrev wsX4_coverFor : List Cond := Cond.code yX4_coverFor cX4_coverFor 7 (some .int) :: lw_g
abbrev cX10_link : ByteArray := prog_1_method_19_code
def yX10_link : MethodName := ⟨RX10, "link", "(II)I"⟩
abbrev wsX10_link : List Cond := Cond.code yX10_link cX10_link 4 (some .int) :: lw_g
abbrev cX4_appendLink : ByteArray := prog_6_method_8_code
def yX4_appendLink : MethodName := ⟨RX4, "appendLink", "(IIII)I"⟩
abbrev wsX4_appendLink : List Cond := Cond.code yX4_appendLink cX4_appendLink 6 (some .int) :: lw_g
abbrev cX10_judge : ByteArray := prog_1_method_20_code
def yX10_judge : MethodName := ⟨RX10, "judge", "(I)I"⟩
abbrev wsX10_judge : List Cond := Cond.code yX10_judge cX10_judge 6 (some .int) :: lw_g
abbrev cX10_policyOfAuthor : ByteArray := prog_1_method_40_code
def yX10_policyOfAuthor : MethodName := ⟨RX10, "policyOfAuthor", "()LMailArbiter$Policy;"⟩
abbrev wsX10_policyOfAuthor : List Cond := Cond.code yX10_policyOfAuthor cX10_policyOfAuthor 3 (some (.object "MailArbiter$Policy")) :: lw_g
abbrev cX10_senderAgrees : ByteArray := prog_1_method_41_code
def yX10_senderAgrees : MethodName := ⟨RX10, "senderAgrees", "(ILMailArbiter$Policy;)Z"⟩
abbrev wsX10_senderAgrees : List Cond := Cond.code yX10_senderAgrees cX10_senderAgrees 3 (some .boolean) :: lw_g
abbrev cX10_isAligned : ByteArray := prog_1_method_43_code
def yX10_isAligned : MethodName := ⟨RX10, "isAligned", "(IZ)Z"⟩
abbrev wsX10_isAligned : List Cond := Cond.code yX10_isAligned cX10_isAligned 3 (some .boolean) :: lw_g
abbrev cX10_signatureAgrees : ByteArray := prog_1_method_42_code
def yX10_signatureAgrees : MethodName := ⟨RX10, "signatureAgrees", "(LMailArbiter$Policy;)Z"⟩
abbrev wsX10_signatureAgrees : List Cond := Cond.code yX10_signatureAgrees cX10_signatureAgrees 5 (some .boolean) :: lw_g
abbrev cX10_actionBy : ByteArray := prog_1_method_44_code
def yX10_actionBy : MethodName := ⟨RX10, "actionBy", "(LMailArbiter$Policy;I)I"⟩
abbrev wsX10_actionBy : List Cond := Cond.code yX10_actionBy cX10_actionBy 4 (some .int) :: lw_g
abbrev cX10_report : ByteArray := prog_1_method_45_code
def yX10_report : MethodName := ⟨RX10, "report", "(IIII)V"⟩
abbrev wsX10_report : List Cond := Cond.code yX10_report cX10_report 6 none :: lw_g
abbrev cX6_isFor : ByteArray := prog_8_method_3_code
def yX6_isFor : MethodName := ⟨RX6, "isFor", "(IIII)Z"⟩
abbrev wsX6_isFor : List Cond := Cond.code yX6_isFor cX6_isFor 5 (some .boolean) :: lw_g
abbrev cX6_fill : ByteArray := prog_8_method_2_code
def yX6_fill : MethodName := ⟨RX6, "fill", "(IIII)V"⟩
abbrev wsX6_fill : List Cond := Cond.code yX6_fill cX6_fill 5 none :: lw_g
abbrev cX10_row : ByteArray := prog_1_method_21_code
def yX10_row : MethodName := ⟨RX10, "row", "(II)I"⟩
abbrev wsX10_row : List Cond := Cond.code yX10_row cX10_row 3 (some .int) :: lw_g
abbrev cX6_fieldAt : ByteArray := prog_8_method_4_code
def yX6_fieldAt : MethodName := ⟨RX6, "fieldAt", "(I)I"⟩
abbrev wsX6_fieldAt : List Cond := Cond.code yX6_fieldAt cX6_fieldAt 2 (some .int) :: lw_g
abbrev cX10_tick : ByteArray := prog_1_method_22_code
def yX10_tick : MethodName := ⟨RX10, "tick", "(I)I"⟩
abbrev wsX10_tick : List Cond := Cond.code yX10_tick cX10_tick 2 (some .int) :: lw_g
abbrev cX11_init : ByteArray := prog_13_method_1_code
def yX11_init : MethodName := ⟨RX11, "<init>", "()V"⟩
abbrev wsX11_init : List Cond := Cond.code yX11_init cX11_init 1 none :: lw_g
abbrev cX11_domain : ByteArray := prog_13_method_3_code
def yX11_domain : MethodName := ⟨RX11, "domain", "(IZ)I"⟩
abbrev wsX11_domain : List Cond := Cond.code yX11_domain cX11_domain 3 (some .int) :: lw_g
abbrev cX11_isDomain : ByteArray := prog_13_method_2_code
def yX11_isDomain : MethodName := ⟨RX11, "isDomain", "(I)Z"⟩
abbrev wsX11_isDomain : List Cond := Cond.code yX11_isDomain cX11_isDomain 2 (some .boolean) :: lw_g
abbrev cX11_home : ByteArray := prog_13_method_5_code
def yX11_home : MethodName := ⟨RX11, "home", "(I)I"⟩
abbrev wsX11_home : List Cond := Cond.code yX11_home cX11_home 2 (some .int) :: lw_g
abbrev cX11_homeOf : ByteArray := prog_13_method_4_code
def yX11_homeOf : MethodName := ⟨RX11, "homeOf", "(I)I"⟩
abbrev wsX11_homeOf : List Cond := Cond.code yX11_homeOf cX11_homeOf 3 (some .int) :: lw_g
abbrev cX11_silent : ByteArray := prog_13_method_6_code
def yX11_silent : MethodName := ⟨RX11, "silent", "(IZ)Z"⟩
abbrev wsX11_silent : List Cond := Cond.code yX11_silent cX11_silent 3 (some .boolean) :: lw_g
abbrev cX11_host : ByteArray := prog_13_method_7_code
def yX11_host : MethodName := ⟨RX11, "host", "(III)I"⟩
abbrev wsX11_host : List Cond := Cond.code yX11_host cX11_host 5 (some .int) :: lw_g
abbrev cX11_rule : ByteArray := prog_13_method_8_code
def yX11_rule : MethodName := ⟨RX11, "rule", "(IIIII)I"⟩
abbrev wsX11_rule : List Cond := Cond.code yX11_rule cX11_rule 10 (some .int) :: lw_g
abbrev cX11_key : ByteArray := prog_13_method_9_code
def yX11_key : MethodName := ⟨RX11, "key", "(III)Z"⟩
abbrev wsX11_key : List Cond := Cond.code yX11_key cX11_key 4 (some .boolean) :: lw_g
abbrev cX11_policy : ByteArray := prog_13_method_10_code
def yX11_policy : MethodName := ⟨RX11, "policy", "(IIIII)Z"⟩
abbrev wsX11_policy : List Cond := Cond.code yX11_policy cX11_policy 7 (some .boolean) :: lw_g
abbrev cX11_sender : ByteArray := prog_13_method_22_code
def yX11_sender : MethodName := ⟨RX11, "sender", "()I"⟩
abbrev wsX11_sender : List Cond := Cond.code yX11_sender cX11_sender 1 (some .int) :: lw_g
abbrev cX11_checkSender : ByteArray := prog_13_method_21_code
def yX11_checkSender : MethodName := ⟨RX11, "checkSender", "()I"⟩
abbrev wsX11_checkSender : List Cond := Cond.code yX11_checkSender cX11_checkSender 3 (some .int) :: lw_g
abbrev cX11_wait : ByteArray := prog_13_method_17_code
def yX11_wait : MethodName := ⟨RX11, "wait", "(I)V"⟩
abbrev wsX11_wait : List Cond := Cond.code yX11_wait cX11_wait 2 none :: lw_g
abbrev cX11_stepOn : ByteArray := prog_13_method_19_code
def yX11_stepOn : MethodName := ⟨RX11, "stepOn", "()I"⟩
abbrev wsX11_stepOn : List Cond := Cond.code yX11_stepOn cX11_stepOn 5 (some .int) :: lw_g
abbrev cX11_back : ByteArray := prog_13_method_18_code
def yX11_back : MethodName := ⟨RX11, "back", "(I)I"⟩
abbrev wsX11_back : List Cond := Cond.code yX11_back cX11_back 4 (some .int) :: lw_g
abbrev cX11_sendOn : ByteArray := prog_13_method_20_code
def yX11_sendOn : MethodName := ⟨RX11, "sendOn", "(I)I"⟩
abbrev wsX11_sendOn : List Cond := Cond.code yX11_sendOn cX11_sendOn 2 (some .int) :: lw_g
abbrev cX11_lookup : ByteArray := prog_13_method_14_code
def yX11_lookup : MethodName := ⟨RX11, "lookup", "()I"⟩
abbrev wsX11_lookup : List Cond := Cond.code yX11_lookup cX11_lookup 1 (some .int) :: lw_g
abbrev cX11_tryTerm : ByteArray := prog_13_method_15_code
def yX11_tryTerm : MethodName := ⟨RX11, "tryTerm", "(I)I"⟩
abbrev wsX11_tryTerm : List Cond := Cond.code yX11_tryTerm cX11_tryTerm 3 (some .int) :: lw_g
abbrev cX11_agrees : ByteArray := prog_13_method_11_code
def yX11_agrees : MethodName := ⟨RX11, "agrees", "(II)Z"⟩
abbrev wsX11_agrees : List Cond := Cond.code yX11_agrees cX11_agrees 3 (some .boolean) :: lw_g
abbrev cX11_empty : ByteArray := prog_13_method_13_code
def yX11_empty : MethodName := ⟨RX11, "empty", "()I"⟩
abbrev wsX11_empty : List Cond := Cond.code yX11_empty cX11_empty 1 (some .int) :: lw_g
abbrev cX11_tryExchangers : ByteArray := prog_13_method_16_code
def yX11_tryExchangers : MethodName := ⟨RX11, "tryExchangers", "(II)I"⟩
abbrev wsX11_tryExchangers : List Cond := Cond.code yX11_tryExchangers cX11_tryExchangers 5 (some .int) :: lw_g
abbrev cX11_isAt : ByteArray := prog_13_method_12_code
def yX11_isAt : MethodName := ⟨RX11, "isAt", "(II)Z"⟩
abbrev wsX11_isAt : List Cond := Cond.code yX11_isAt cX11_isAt 5 (some .boolean) :: lw_g
abbrev cX11_counted : ByteArray := prog_13_method_23_code
def yX11_counted : MethodName := ⟨RX11, "counted", "(I)I"⟩
abbrev wsX11_counted : List Cond := Cond.code yX11_counted cX11_counted 2 (some .int) :: lw_g
abbrev cX11_mail : ByteArray := prog_13_method_24_code
def yX11_mail : MethodName := ⟨RX11, "mail", "(III)Z"⟩
abbrev wsX11_mail : List Cond := Cond.code yX11_mail cX11_mail 4 (some .boolean) :: lw_g
abbrev cX11_header : ByteArray := prog_13_method_25_code
def yX11_header : MethodName := ⟨RX11, "header", "(I)I"⟩
abbrev wsX11_header : List Cond := Cond.code yX11_header cX11_header 2 (some .int) :: lw_g
abbrev cX11_type : ByteArray := prog_13_method_27_code
def yX11_type : MethodName := ⟨RX11, "type", "(IJI)I"⟩
abbrev wsX11_type : List Cond := Cond.code yX11_type cX11_type 8 (some .int) :: lw_g
abbrev cX11_isThere : ByteArray := prog_13_method_26_code
def yX11_isThere : MethodName := ⟨RX11, "isThere", "(I)Z"⟩
abbrev wsX11_isThere : List Cond := Cond.code yX11_isThere cX11_isThere 2 (some .boolean) :: lw_g
abbrev cX11_length : ByteArray := prog_13_method_32_code
def yX11_length : MethodName := ⟨RX11, "length", "(IZ)I"⟩
abbrev wsX11_length : List Cond := Cond.code yX11_length cX11_length 3 (some .int) :: lw_g
abbrev cX11_makeBody : ByteArray := prog_13_method_31_code
def yX11_makeBody : MethodName := ⟨RX11, "makeBody", "(Z)V"⟩
abbrev wsX11_makeBody : List Cond := Cond.code yX11_makeBody cX11_makeBody 5 none :: lw_g
abbrev cX11_isBlank : ByteArray := prog_13_method_29_code
def yX11_isBlank : MethodName := ⟨RX11, "isBlank", "(I)Z"⟩
abbrev wsX11_isBlank : List Cond := Cond.code yX11_isBlank cX11_isBlank 1 (some .boolean) :: lw_g
abbrev cX11_add : ByteArray := prog_13_method_28_code
def yX11_add : MethodName := ⟨RX11, "add", "(I)V"⟩
abbrev wsX11_add : List Cond := Cond.code yX11_add cX11_add 2 none :: lw_g
abbrev cX11_makeHeader : ByteArray := prog_13_method_30_code
def yX11_makeHeader : MethodName := ⟨RX11, "makeHeader", "(IZ)V"⟩
abbrev wsX11_makeHeader : List Cond := Cond.code yX11_makeHeader cX11_makeHeader 6 none :: lw_g
abbrev cX11_sign : ByteArray := prog_13_method_39_code
def yX11_sign : MethodName := ⟨RX11, "sign", "(IIIII)I"⟩
abbrev wsX11_sign : List Cond := Cond.code yX11_sign cX11_sign 7 (some .int) :: lw_g
abbrev cX11_bodyLength : ByteArray := prog_13_method_38_code
def yX11_bodyLength : MethodName := ⟨RX11, "bodyLength", "(I)I"⟩
abbrev wsX11_bodyLength : List Cond := Cond.code yX11_bodyLength cX11_bodyLength 2 (some .int) :: lw_g
abbrev cX11_make : ByteArray := prog_13_method_37_code
def yX11_make : MethodName := ⟨RX11, "make", "(IIIIIII)V"⟩
abbrev wsX11_make : List Cond := Cond.code yX11_make cX11_make 8 none :: lw_g
abbrev cX11_bodyDigest : ByteArray := prog_13_method_35_code
def yX11_bodyDigest : MethodName := ⟨RX11, "bodyDigest", "(II)I"⟩
abbrev wsX11_bodyDigest : List Cond := Cond.code yX11_bodyDigest cX11_bodyDigest 4 (some .int) :: lw_g
abbrev cX11_mix : ByteArray := prog_13_method_33_code
def yX11_mix : MethodName := ⟨RX11, "mix", "(I)V"⟩
abbrev wsX11_mix : List Cond := Cond.code yX11_mix cX11_mix 4 none :: lw_g
abbrev cX11_digest : ByteArray := prog_13_method_34_code
def yX11_digest : MethodName := ⟨RX11, "digest", "()I"⟩
abbrev wsX11_digest : List Cond := Cond.code yX11_digest cX11_digest 1 (some .int) :: lw_g
abbrev cX11_sealOf : ByteArray := prog_13_method_36_code
def yX11_sealOf : MethodName := ⟨RX11, "sealOf", "(I)I"⟩
abbrev wsX11_sealOf : List Cond := Cond.code yX11_sealOf cX11_sealOf 4 (some .int) :: lw_g
abbrev cX11_spoil : ByteArray := prog_13_method_40_code
def yX11_spoil : MethodName := ⟨RX11, "spoil", "(II)Z"⟩
abbrev wsX11_spoil : List Cond := Cond.code yX11_spoil cX11_spoil 3 (some .boolean) :: lw_g
abbrev cX11_signature : ByteArray := prog_13_method_42_code
def yX11_signature : MethodName := ⟨RX11, "signature", "(I)I"⟩
abbrev wsX11_signature : List Cond := Cond.code yX11_signature cX11_signature 2 (some .int) :: lw_g
abbrev cX11_checkSignature : ByteArray := prog_13_method_41_code
def yX11_checkSignature : MethodName := ⟨RX11, "checkSignature", "(I)I"⟩
abbrev wsX11_checkSignature : List Cond := Cond.code yX11_checkSignature cX11_checkSignature 3 (some .int) :: lw_g
abbrev cX11_chain : ByteArray := prog_13_method_45_code
def yX11_chain : MethodName := ⟨RX11, "chain", "()I"⟩
abbrev wsX11_chain : List Cond := Cond.code yX11_chain cX11_chain 1 (some .int) :: lw_g
abbrev cX11_chainState : ByteArray := prog_13_method_44_code
def yX11_chainState : MethodName := ⟨RX11, "chainState", "()I"⟩
abbrev wsX11_chainState : List Cond := Cond.code yX11_chainState cX11_chainState 4 (some .int) :: lw_g
abbrev cX11_coverOf : ByteArray := prog_13_method_43_code
def yX11_coverOf : MethodName := ⟨RX11, "coverOf", "(I)I"⟩
abbrev wsX11_coverOf : List Cond := Cond.code yX11_coverOf cX11_coverOf 4 (some .int) :: lw_g
abbrev cX11_link : ByteArray := prog_13_method_46_code
def yX11_link : MethodName := ⟨RX11, "link", "(II)I"⟩
abbrev wsX11_link : List Cond := Cond.code yX11_link cX11_link 4 (some .int) :: lw_g
abbrev cX11_judge : ByteArray := prog_13_method_49_code
def yX11_judge : MethodName := ⟨RX11, "judge", "(I)I"⟩
abbrev wsX11_judge : List Cond := Cond.code yX11_judge cX11_judge 10 (some .int) :: lw_g
abbrev cX11_isNear : ByteArray := prog_13_method_47_code
def yX11_isNear : MethodName := ⟨RX11, "isNear", "(IZ)Z"⟩
abbrev wsX11_isNear : List Cond := Cond.code yX11_isNear cX11_isNear 3 (some .boolean) :: lw_g
abbrev cX11_report : ByteArray := prog_13_method_48_code
def yX11_report : MethodName := ⟨RX11, "report", "(II)V"⟩
abbrev wsX11_report : List Cond := Cond.code yX11_report cX11_report 5 none :: lw_g
abbrev cX11_row : ByteArray := prog_13_method_50_code
def yX11_row : MethodName := ⟨RX11, "row", "(II)I"⟩
abbrev wsX11_row : List Cond := Cond.code yX11_row cX11_row 3 (some .int) :: lw_g
abbrev cX11_tick : ByteArray := prog_13_method_51_code
def yX11_tick : MethodName := ⟨RX11, "tick", "(I)I"⟩
abbrev wsX11_tick : List Cond := Cond.code yX11_tick cX11_tick 2 (some .int) :: lw_g
abbrev cL_law : ByteArray := code
def nstq : List (String × Nat × MethodName × String) := [(RX10, 15, yX1_init, RX10), (RX1, 11, yX2_init, RX10), (RX1, 23, yX7_init, RX10), (RX1, 34, yX5_init, RX10), (RX10, 22, yX5_init, RX10), (RX4, 43, yX8_init, RX10), (RX4, 44, yX3_init, RX10), (RX3, 9, yX8_init, RX10), (RX10, 36, yX0_init, RX10), (RX10, 47, yX6_init, RX10), (RX4, 71, yX10_isWithin, RX10), (RX9, 19, yX10_byteAt, RX10), (RX9, 27, yX10_isBlank, RX10), (RX4, 132, yX10_mixText, RX10), (RX4, 136, yX10_digestOf, RX10), (RX4, 140, yX10_mix, RX10), (RX0, 67, yX10_agree, RX10), (RX2, 19, yX10_agree, RX10)]
theorem hdX10_init : yX10_init.cls ≠ "java/lang/invoke/MethodHandle" ∧ yX10_init.cls ≠ "java/lang/invoke/VarHandle" ∧ (parseMethodDescriptor yX10_init.desc).map (fun d => d.parameters.length) = some 0 := by decide +kernel
theorem hdX1_init : yX1_init.cls ≠ "java/lang/invoke/MethodHandle" ∧ yX1_init.cls ≠ "java/lang/invoke/VarHandle" ∧ (parseMethodDescriptor yX1_init.desc).map (fun d => d.parameters.length) = some 0 := by decide +kernel
theorem hdX2_init : yX2_init.cls ≠ "java/lang/invoke/MethodHandle" ∧ yX2_init.cls ≠ "java/lang/invoke/VarHandle" ∧ (parseMethodDescriptor yX2_init.desc).map (fun d => d.parameters.length) = some 0 := by decide +kernel
theorem hdX7_init : yX7_init.cls ≠ "java/lang/invoke/MethodHandle" ∧ yX7_init.cls ≠ "java/lang/invoke/VarHandle" ∧ (parseMethodDescriptor yX7_init.desc).map (fun d => d.parameters.length) = some 0 := by decide +kernel
theorem hdX5_init : yX5_init.cls ≠ "java/lang/invoke/MethodHandle" ∧ yX5_init.cls ≠ "java/lang/invoke/VarHandle" ∧ (parseMethodDescriptor yX5_init.desc).map (fun d => d.parameters.length) = some 0 := by decide +kernel
theorem hdX4_init : yX4_init.cls ≠ "java/lang/invoke/MethodHandle" ∧ yX4_init.cls ≠ "java/lang/invoke/VarHandle" ∧ (parseMethodDescriptor yX4_init.desc).map (fun d => d.parameters.length) = some 0 := by decide +kernel
theorem hdX9_init : yX9_init.cls ≠ "java/lang/invoke/MethodHandle" ∧ yX9_init.cls ≠ "java/lang/invoke/VarHandle" ∧ (parseMethodDescriptor yX9_init.desc).map (fun d => d.parameters.length) = some 1 := by decide +kernel
theorem hdX8_init : yX8_init.cls ≠ "java/lang/invoke/MethodHandle" ∧ yX8_init.cls ≠ "java/lang/invoke/VarHandle" ∧ (parseMethodDescriptor yX8_init.desc).map (fun d => d.parameters.length) = some 0 := by decide +kernel
theorem hdX3_init : yX3_init.cls ≠ "java/lang/invoke/MethodHandle" ∧ yX3_init.cls ≠ "java/lang/invoke/VarHandle" ∧ (parseMethodDescriptor yX3_init.desc).map (fun d => d.parameters.length) = some 0 := by decide +kernel
theorem hdX0_init : yX0_init.cls ≠ "java/lang/invoke/MethodHandle" ∧ yX0_init.cls ≠ "java/lang/invoke/VarHandle" ∧ (parseMethodDescriptor yX0_init.desc).map (fun d => d.parameters.length) = some 0 := by decide +kernel
theorem hdX6_init : yX6_init.cls ≠ "java/lang/invoke/MethodHandle" ∧ yX6_init.cls ≠ "java/lang/invoke/VarHandle" ∧ (parseMethodDescriptor yX6_init.desc).map (fun d => d.parameters.length) = some 0 := by decide +kernel
theorem hdX10_domain : yX10_domain.cls ≠ "java/lang/invoke/MethodHandle" ∧ yX10_domain.cls ≠ "java/lang/invoke/VarHandle" ∧ (parseMethodDescriptor yX10_domain.desc).map (fun d => d.parameters.length) = some 2 := by decide +kernel
theorem hdX10_isDomain : yX10_isDomain.cls ≠ "java/lang/invoke/MethodHandle" ∧ yX10_isDomain.cls ≠ "java/lang/invoke/VarHandle" ∧ (parseMethodDescriptor yX10_isDomain.desc).map (fun d => d.parameters.length) = some 1 := by decide +kernel
theorem hdX10_isWithin : yX10_isWithin.cls ≠ "java/lang/invoke/MethodHandle" ∧ yX10_isWithin.cls ≠ "java/lang/invoke/VarHandle" ∧ (parseMethodDescriptor yX10_isWithin.desc).map (fun d => d.parameters.length) = some 3 := by decide +kernel
theorem hdX10_homeUnder : yX10_homeUnder.cls ≠ "java/lang/invoke/MethodHandle" ∧ yX10_homeUnder.cls ≠ "java/lang/invoke/VarHandle" ∧ (parseMethodDescriptor yX10_homeUnder.desc).map (fun d => d.parameters.length) = some 2 := by decide +kernel
theorem hdX10_home : yX10_home.cls ≠ "java/lang/invoke/MethodHandle" ∧ yX10_home.cls ≠ "java/lang/invoke/VarHandle" ∧ (parseMethodDescriptor yX10_home.desc).map (fun d => d.parameters.length) = some 1 := by decide +kernel
theorem hdX10_silent : yX10_silent.cls ≠ "java/lang/invoke/MethodHandle" ∧ yX10_silent.cls ≠ "java/lang/invoke/VarHandle" ∧ (parseMethodDescriptor yX10_silent.desc).map (fun d => d.parameters.length) = some 2 := by decide +kernel
theorem hdX10_host : yX10_host.cls ≠ "java/lang/invoke/MethodHandle" ∧ yX10_host.cls ≠ "java/lang/invoke/VarHandle" ∧ (parseMethodDescriptor yX10_host.desc).map (fun d => d.parameters.length) = some 3 := by decide +kernel
theorem hdX2_append : yX2_append.cls ≠ "java/lang/invoke/MethodHandle" ∧ yX2_append.cls ≠ "java/lang/invoke/VarHandle" ∧ (parseMethodDescriptor yX2_append.desc).map (fun d => d.parameters.length) = some 1 := by decide +kernel
theorem hdX10_rule : yX10_rule.cls ≠ "java/lang/invoke/MethodHandle" ∧ yX10_rule.cls ≠ "java/lang/invoke/VarHandle" ∧ (parseMethodDescriptor yX10_rule.desc).map (fun d => d.parameters.length) = some 5 := by decide +kernel
theorem hdX7_redirectTo : yX7_redirectTo.cls ≠ "java/lang/invoke/MethodHandle" ∧ yX7_redirectTo.cls ≠ "java/lang/invoke/VarHandle" ∧ (parseMethodDescriptor yX7_redirectTo.desc).map (fun d => d.parameters.length) = some 1 := by decide +kernel
theorem hdX10_hasLength : yX10_hasLength.cls ≠ "java/lang/invoke/MethodHandle" ∧ yX10_hasLength.cls ≠ "java/lang/invoke/VarHandle" ∧ (parseMethodDescriptor yX10_hasLength.desc).map (fun d => d.parameters.length) = some 1 := by decide +kernel
theorem hdX7_append : yX7_append.cls ≠ "java/lang/invoke/MethodHandle" ∧ yX7_append.cls ≠ "java/lang/invoke/VarHandle" ∧ (parseMethodDescriptor yX7_append.desc).map (fun d => d.parameters.length) = some 4 := by decide +kernel
theorem hdX10_key : yX10_key.cls ≠ "java/lang/invoke/MethodHandle" ∧ yX10_key.cls ≠ "java/lang/invoke/VarHandle" ∧ (parseMethodDescriptor yX10_key.desc).map (fun d => d.parameters.length) = some 3 := by decide +kernel
theorem hdX10_isSelector : yX10_isSelector.cls ≠ "java/lang/invoke/MethodHandle" ∧ yX10_isSelector.cls ≠ "java/lang/invoke/VarHandle" ∧ (parseMethodDescriptor yX10_isSelector.desc).map (fun d => d.parameters.length) = some 1 := by decide +kernel
theorem hdX10_policy : yX10_policy.cls ≠ "java/lang/invoke/MethodHandle" ∧ yX10_policy.cls ≠ "java/lang/invoke/VarHandle" ∧ (parseMethodDescriptor yX10_policy.desc).map (fun d => d.parameters.length) = some 5 := by decide +kernel
theorem hdX5_fill : yX5_fill.cls ≠ "java/lang/invoke/MethodHandle" ∧ yX5_fill.cls ≠ "java/lang/invoke/VarHandle" ∧ (parseMethodDescriptor yX5_fill.desc).map (fun d => d.parameters.length) = some 4 := by decide +kernel
theorem hdX10_mail : yX10_mail.cls ≠ "java/lang/invoke/MethodHandle" ∧ yX10_mail.cls ≠ "java/lang/invoke/VarHandle" ∧ (parseMethodDescriptor yX10_mail.desc).map (fun d => d.parameters.length) = some 3 := by decide +kernel
theorem hdX4_begin : yX4_begin.cls ≠ "java/lang/invoke/MethodHandle" ∧ yX4_begin.cls ≠ "java/lang/invoke/VarHandle" ∧ (parseMethodDescriptor yX4_begin.desc).map (fun d => d.parameters.length) = some 3 := by decide +kernel
theorem hdX10_header : yX10_header.cls ≠ "java/lang/invoke/MethodHandle" ∧ yX10_header.cls ≠ "java/lang/invoke/VarHandle" ∧ (parseMethodDescriptor yX10_header.desc).map (fun d => d.parameters.length) = some 1 := by decide +kernel
theorem hdX4_appendHeader : yX4_appendHeader.cls ≠ "java/lang/invoke/MethodHandle" ∧ yX4_appendHeader.cls ≠ "java/lang/invoke/VarHandle" ∧ (parseMethodDescriptor yX4_appendHeader.desc).map (fun d => d.parameters.length) = some 1 := by decide +kernel
theorem hdX10_type : yX10_type.cls ≠ "java/lang/invoke/MethodHandle" ∧ yX10_type.cls ≠ "java/lang/invoke/VarHandle" ∧ (parseMethodDescriptor yX10_type.desc).map (fun d => d.parameters.length) = some 3 := by decide +kernel
theorem hdX4_partAt : yX4_partAt.cls ≠ "java/lang/invoke/MethodHandle" ∧ yX4_partAt.cls ≠ "java/lang/invoke/VarHandle" ∧ (parseMethodDescriptor yX4_partAt.desc).map (fun d => d.parameters.length) = some 1 := by decide +kernel
theorem hdX10_areAllowed : yX10_areAllowed.cls ≠ "java/lang/invoke/MethodHandle" ∧ yX10_areAllowed.cls ≠ "java/lang/invoke/VarHandle" ∧ (parseMethodDescriptor yX10_areAllowed.desc).map (fun d => d.parameters.length) = some 3 := by decide +kernel
theorem hdX10_byteAt : yX10_byteAt.cls ≠ "java/lang/invoke/MethodHandle" ∧ yX10_byteAt.cls ≠ "java/lang/invoke/VarHandle" ∧ (parseMethodDescriptor yX10_byteAt.desc).map (fun d => d.parameters.length) = some 2 := by decide +kernel
theorem hdX9_appendBytes : yX9_appendBytes.cls ≠ "java/lang/invoke/MethodHandle" ∧ yX9_appendBytes.cls ≠ "java/lang/invoke/VarHandle" ∧ (parseMethodDescriptor yX9_appendBytes.desc).map (fun d => d.parameters.length) = some 2 := by decide +kernel
theorem hdX9_append : yX9_append.cls ≠ "java/lang/invoke/MethodHandle" ∧ yX9_append.cls ≠ "java/lang/invoke/VarHandle" ∧ (parseMethodDescriptor yX9_append.desc).map (fun d => d.parameters.length) = some 1 := by decide +kernel
theorem hdX10_length : yX10_length.cls ≠ "java/lang/invoke/MethodHandle" ∧ yX10_length.cls ≠ "java/lang/invoke/VarHandle" ∧ (parseMethodDescriptor yX10_length.desc).map (fun d => d.parameters.length) = some 2 := by decide +kernel
theorem hdX4_bodyForm : yX4_bodyForm.cls ≠ "java/lang/invoke/MethodHandle" ∧ yX4_bodyForm.cls ≠ "java/lang/invoke/VarHandle" ∧ (parseMethodDescriptor yX4_bodyForm.desc).map (fun d => d.parameters.length) = some 1 := by decide +kernel
theorem hdX9_becomeRelaxed : yX9_becomeRelaxed.cls ≠ "java/lang/invoke/MethodHandle" ∧ yX9_becomeRelaxed.cls ≠ "java/lang/invoke/VarHandle" ∧ (parseMethodDescriptor yX9_becomeRelaxed.desc).map (fun d => d.parameters.length) = some 2 := by decide +kernel
theorem hdX10_isBlank : yX10_isBlank.cls ≠ "java/lang/invoke/MethodHandle" ∧ yX10_isBlank.cls ≠ "java/lang/invoke/VarHandle" ∧ (parseMethodDescriptor yX10_isBlank.desc).map (fun d => d.parameters.length) = some 1 := by decide +kernel
theorem hdX9_becomeSimple : yX9_becomeSimple.cls ≠ "java/lang/invoke/MethodHandle" ∧ yX9_becomeSimple.cls ≠ "java/lang/invoke/VarHandle" ∧ (parseMethodDescriptor yX9_becomeSimple.desc).map (fun d => d.parameters.length) = some 1 := by decide +kernel
theorem hdX9_endWithOneLineEnd : yX9_endWithOneLineEnd.cls ≠ "java/lang/invoke/MethodHandle" ∧ yX9_endWithOneLineEnd.cls ≠ "java/lang/invoke/VarHandle" ∧ (parseMethodDescriptor yX9_endWithOneLineEnd.desc).map (fun d => d.parameters.length) = some 0 := by decide +kernel
theorem hdX4_headerForm : yX4_headerForm.cls ≠ "java/lang/invoke/MethodHandle" ∧ yX4_headerForm.cls ≠ "java/lang/invoke/VarHandle" ∧ (parseMethodDescriptor yX4_headerForm.desc).map (fun d => d.parameters.length) = some 2 := by decide +kernel
theorem hdX10_sign : yX10_sign.cls ≠ "java/lang/invoke/MethodHandle" ∧ yX10_sign.cls ≠ "java/lang/invoke/VarHandle" ∧ (parseMethodDescriptor yX10_sign.desc).map (fun d => d.parameters.length) = some 5 := by decide +kernel
theorem hdX10_hasKey : yX10_hasKey.cls ≠ "java/lang/invoke/MethodHandle" ∧ yX10_hasKey.cls ≠ "java/lang/invoke/VarHandle" ∧ (parseMethodDescriptor yX10_hasKey.desc).map (fun d => d.parameters.length) = some 2 := by decide +kernel
theorem hdX4_nextSignature : yX4_nextSignature.cls ≠ "java/lang/invoke/MethodHandle" ∧ yX4_nextSignature.cls ≠ "java/lang/invoke/VarHandle" ∧ (parseMethodDescriptor yX4_nextSignature.desc).map (fun d => d.parameters.length) = some 0 := by decide +kernel
theorem hdX8_fill : yX8_fill.cls ≠ "java/lang/invoke/MethodHandle" ∧ yX8_fill.cls ≠ "java/lang/invoke/VarHandle" ∧ (parseMethodDescriptor yX8_fill.desc).map (fun d => d.parameters.length) = some 6 := by decide +kernel
theorem hdX4_seal : yX4_seal.cls ≠ "java/lang/invoke/MethodHandle" ∧ yX4_seal.cls ≠ "java/lang/invoke/VarHandle" ∧ (parseMethodDescriptor yX4_seal.desc).map (fun d => d.parameters.length) = some 2 := by decide +kernel
theorem hdX4_bodyDigestFor : yX4_bodyDigestFor.cls ≠ "java/lang/invoke/MethodHandle" ∧ yX4_bodyDigestFor.cls ≠ "java/lang/invoke/VarHandle" ∧ (parseMethodDescriptor yX4_bodyDigestFor.desc).map (fun d => d.parameters.length) = some 1 := by decide +kernel
theorem hdX8_isBodyRelaxed : yX8_isBodyRelaxed.cls ≠ "java/lang/invoke/MethodHandle" ∧ yX8_isBodyRelaxed.cls ≠ "java/lang/invoke/VarHandle" ∧ (parseMethodDescriptor yX8_isBodyRelaxed.desc).map (fun d => d.parameters.length) = some 0 := by decide +kernel
theorem hdX10_mixText : yX10_mixText.cls ≠ "java/lang/invoke/MethodHandle" ∧ yX10_mixText.cls ≠ "java/lang/invoke/VarHandle" ∧ (parseMethodDescriptor yX10_mixText.desc).map (fun d => d.parameters.length) = some 3 := by decide +kernel
theorem hdX10_mix : yX10_mix.cls ≠ "java/lang/invoke/MethodHandle" ∧ yX10_mix.cls ≠ "java/lang/invoke/VarHandle" ∧ (parseMethodDescriptor yX10_mix.desc).map (fun d => d.parameters.length) = some 2 := by decide +kernel
theorem hdX10_digestOf : yX10_digestOf.cls ≠ "java/lang/invoke/MethodHandle" ∧ yX10_digestOf.cls ≠ "java/lang/invoke/VarHandle" ∧ (parseMethodDescriptor yX10_digestOf.desc).map (fun d => d.parameters.length) = some 1 := by decide +kernel
theorem hdX4_sealFor : yX4_sealFor.cls ≠ "java/lang/invoke/MethodHandle" ∧ yX4_sealFor.cls ≠ "java/lang/invoke/VarHandle" ∧ (parseMethodDescriptor yX4_sealFor.desc).map (fun d => d.parameters.length) = some 2 := by decide +kernel
theorem hdX8_hasName : yX8_hasName.cls ≠ "java/lang/invoke/MethodHandle" ∧ yX8_hasName.cls ≠ "java/lang/invoke/VarHandle" ∧ (parseMethodDescriptor yX8_hasName.desc).map (fun d => d.parameters.length) = some 1 := by decide +kernel
theorem hdX8_isHeaderRelaxed : yX8_isHeaderRelaxed.cls ≠ "java/lang/invoke/MethodHandle" ∧ yX8_isHeaderRelaxed.cls ≠ "java/lang/invoke/VarHandle" ∧ (parseMethodDescriptor yX8_isHeaderRelaxed.desc).map (fun d => d.parameters.length) = some 0 := by decide +kernel
theorem hdX10_spoil : yX10_spoil.cls ≠ "java/lang/invoke/MethodHandle" ∧ yX10_spoil.cls ≠ "java/lang/invoke/VarHandle" ∧ (parseMethodDescriptor yX10_spoil.desc).map (fun d => d.parameters.length) = some 2 := by decide +kernel
theorem hdX10_isSignature : yX10_isSignature.cls ≠ "java/lang/invoke/MethodHandle" ∧ yX10_isSignature.cls ≠ "java/lang/invoke/VarHandle" ∧ (parseMethodDescriptor yX10_isSignature.desc).map (fun d => d.parameters.length) = some 1 := by decide +kernel
theorem hdX10_signature : yX10_signature.cls ≠ "java/lang/invoke/MethodHandle" ∧ yX10_signature.cls ≠ "java/lang/invoke/VarHandle" ∧ (parseMethodDescriptor yX10_signature.desc).map (fun d => d.parameters.length) = some 1 := by decide +kernel
theorem hdX10_checkSignature : yX10_checkSignature.cls ≠ "java/lang/invoke/MethodHandle" ∧ yX10_checkSignature.cls ≠ "java/lang/invoke/VarHandle" ∧ (parseMethodDescriptor yX10_checkSignature.desc).map (fun d => d.parameters.length) = some 1 := by decide +kernel
theorem hdX10_sender : yX10_sender.cls ≠ "java/lang/invoke/MethodHandle" ∧ yX10_sender.cls ≠ "java/lang/invoke/VarHandle" ∧ (parseMethodDescriptor yX10_sender.desc).map (fun d => d.parameters.length) = some 0 := by decide +kernel
theorem hdX0_start : yX0_start.cls ≠ "java/lang/invoke/MethodHandle" ∧ yX0_start.cls ≠ "java/lang/invoke/VarHandle" ∧ (parseMethodDescriptor yX0_start.desc).map (fun d => d.parameters.length) = some 3 := by decide +kernel
theorem hdX0_resultBy : yX0_resultBy.cls ≠ "java/lang/invoke/MethodHandle" ∧ yX0_resultBy.cls ≠ "java/lang/invoke/VarHandle" ∧ (parseMethodDescriptor yX0_resultBy.desc).map (fun d => d.parameters.length) = some 3 := by decide +kernel
theorem hdX0_outcomeOf : yX0_outcomeOf.cls ≠ "java/lang/invoke/MethodHandle" ∧ yX0_outcomeOf.cls ≠ "java/lang/invoke/VarHandle" ∧ (parseMethodDescriptor yX0_outcomeOf.desc).map (fun d => d.parameters.length) = some 4 := by decide +kernel
theorem hdX10_agree : yX10_agree.cls ≠ "java/lang/invoke/MethodHandle" ∧ yX10_agree.cls ≠ "java/lang/invoke/VarHandle" ∧ (parseMethodDescriptor yX10_agree.desc).map (fun d => d.parameters.length) = some 3 := by decide +kernel
theorem hdX0_matchIf : yX0_matchIf.cls ≠ "java/lang/invoke/MethodHandle" ∧ yX0_matchIf.cls ≠ "java/lang/invoke/VarHandle" ∧ (parseMethodDescriptor yX0_matchIf.desc).map (fun d => d.parameters.length) = some 1 := by decide +kernel
theorem hdX0_isLookupTooMany : yX0_isLookupTooMany.cls ≠ "java/lang/invoke/MethodHandle" ∧ yX0_isLookupTooMany.cls ≠ "java/lang/invoke/VarHandle" ∧ (parseMethodDescriptor yX0_isLookupTooMany.desc).map (fun d => d.parameters.length) = some 0 := by decide +kernel
theorem hdX0_including : yX0_including.cls ≠ "java/lang/invoke/MethodHandle" ∧ yX0_including.cls ≠ "java/lang/invoke/VarHandle" ∧ (parseMethodDescriptor yX0_including.desc).map (fun d => d.parameters.length) = some 3 := by decide +kernel
theorem hdX0_empty : yX0_empty.cls ≠ "java/lang/invoke/MethodHandle" ∧ yX0_empty.cls ≠ "java/lang/invoke/VarHandle" ∧ (parseMethodDescriptor yX0_empty.desc).map (fun d => d.parameters.length) = some 0 := by decide +kernel
theorem hdX0_exchangers : yX0_exchangers.cls ≠ "java/lang/invoke/MethodHandle" ∧ yX0_exchangers.cls ≠ "java/lang/invoke/VarHandle" ∧ (parseMethodDescriptor yX0_exchangers.desc).map (fun d => d.parameters.length) = some 4 := by decide +kernel
theorem hdX2_holdOneLike : yX2_holdOneLike.cls ≠ "java/lang/invoke/MethodHandle" ∧ yX2_holdOneLike.cls ≠ "java/lang/invoke/VarHandle" ∧ (parseMethodDescriptor yX2_holdOneLike.desc).map (fun d => d.parameters.length) = some 2 := by decide +kernel
theorem hdX0_redirected : yX0_redirected.cls ≠ "java/lang/invoke/MethodHandle" ∧ yX0_redirected.cls ≠ "java/lang/invoke/VarHandle" ∧ (parseMethodDescriptor yX0_redirected.desc).map (fun d => d.parameters.length) = some 3 := by decide +kernel
theorem hdX10_counted : yX10_counted.cls ≠ "java/lang/invoke/MethodHandle" ∧ yX10_counted.cls ≠ "java/lang/invoke/VarHandle" ∧ (parseMethodDescriptor yX10_counted.desc).map (fun d => d.parameters.length) = some 1 := by decide +kernel
theorem hdX10_chain : yX10_chain.cls ≠ "java/lang/invoke/MethodHandle" ∧ yX10_chain.cls ≠ "java/lang/invoke/VarHandle" ∧ (parseMethodDescriptor yX10_chain.desc).map (fun d => d.parameters.length) = some 0 := by decide +kernel
theorem hdX10_chainState : yX10_chainState.cls ≠ "java/lang/invoke/MethodHandle" ∧ yX10_chainState.cls ≠ "java/lang/invoke/VarHandle" ∧ (parseMethodDescriptor yX10_chainState.desc).map (fun d => d.parameters.length) = some 0 := by decide +kernel
theorem hdX10_isLinkGood : yX10_isLinkGood.cls ≠ "java/lang/invoke/MethodHandle" ∧ yX10_isLinkGood.cls ≠ "java/lang/invoke/VarHandle" ∧ (parseMethodDescriptor yX10_isLinkGood.desc).map (fun d => d.parameters.length) = some 1 := by decide +kernel
theorem hdX4_coverFor : yX4_coverFor.cls ≠ "java/lang/invoke/MethodHandle" ∧ yX4_coverFor.cls ≠ "java/lang/invoke/VarHandle" ∧ (parseMethodDescriptor yX4_coverFor.desc).map (fun d => d.parameters.length) = some 2 := by decide +kernel
theorem hdX10_link : yX10_link.cls ≠ "java/lang/invoke/MethodHandle" ∧ yX10_link.cls ≠ "java/lang/invoke/VarHandle" ∧ (parseMethodDescriptor yX10_link.desc).map (fun d => d.parameters.length) = some 2 := by decide +kernel
theorem hdX4_appendLink : yX4_appendLink.cls ≠ "java/lang/invoke/MethodHandle" ∧ yX4_appendLink.cls ≠ "java/lang/invoke/VarHandle" ∧ (parseMethodDescriptor yX4_appendLink.desc).map (fun d => d.parameters.length) = some 4 := by decide +kernel
theorem hdX10_judge : yX10_judge.cls ≠ "java/lang/invoke/MethodHandle" ∧ yX10_judge.cls ≠ "java/lang/invoke/VarHandle" ∧ (parseMethodDescriptor yX10_judge.desc).map (fun d => d.parameters.length) = some 1 := by decide +kernel
theorem hdX10_policyOfAuthor : yX10_policyOfAuthor.cls ≠ "java/lang/invoke/MethodHandle" ∧ yX10_policyOfAuthor.cls ≠ "java/lang/invoke/VarHandle" ∧ (parseMethodDescriptor yX10_policyOfAuthor.desc).map (fun d => d.parameters.length) = some 0 := by decide +kernel
theorem hdX10_senderAgrees : yX10_senderAgrees.cls ≠ "java/lang/invoke/MethodHandle" ∧ yX10_senderAgrees.cls ≠ "java/lang/invoke/VarHandle" ∧ (parseMethodDescriptor yX10_senderAgrees.desc).map (fun d => d.parameters.length) = some 2 := by decide +kernel
theorem hdX10_isAligned : yX10_isAligned.cls ≠ "java/lang/invoke/MethodHandle" ∧ yX10_isAligned.cls ≠ "java/lang/invoke/VarHandle" ∧ (parseMethodDescriptor yX10_isAligned.desc).map (fun d => d.parameters.length) = some 2 := by decide +kernel
theorem hdX10_signatureAgrees : yX10_signatureAgrees.cls ≠ "java/lang/invoke/MethodHandle" ∧ yX10_signatureAgrees.cls ≠ "java/lang/invoke/VarHandle" ∧ (parseMethodDescriptor yX10_signatureAgrees.desc).map (fun d => d.parameters.length) = some 1 := by decide +kernel
theorem hdX10_actionBy : yX10_actionBy.cls ≠ "java/lang/invoke/MethodHandle" ∧ yX10_actionBy.cls ≠ "java/lang/invoke/VarHandle" ∧ (parseMethodDescriptor yX10_actionBy.desc).map (fun d => d.parameters.length) = some 2 := by decide +kernel
theorem hdX10_report : yX10_report.cls ≠ "java/lang/invoke/MethodHandle" ∧ yX10_report.cls ≠ "java/lang/invoke/VarHandle" ∧ (parseMethodDescriptor yX10_report.desc).map (fun d => d.parameters.length) = some 4 := by decide +kernel
theorem hdX6_isFor : yX6_isFor.cls ≠ "java/lang/invoke/MethodHandle" ∧ yX6_isFor.cls ≠ "java/lang/invoke/VarHandle" ∧ (parseMethodDescriptor yX6_isFor.desc).map (fun d => d.parameters.length) = some 4 := by decide +kernel
theorem hdX6_fill : yX6_fill.cls ≠ "java/lang/invoke/MethodHandle" ∧ yX6_fill.cls ≠ "java/lang/invoke/VarHandle" ∧ (parseMethodDescriptor yX6_fill.desc).map (fun d => d.parameters.length) = some 4 := by decide +kernel
theorem hdX10_row : yX10_row.cls ≠ "java/lang/invoke/MethodHandle" ∧ yX10_row.cls ≠ "java/lang/invoke/VarHandle" ∧ (parseMethodDescriptor yX10_row.desc).map (fun d => d.parameters.length) = some 2 := by decide +kernel
theorem hdX6_fieldAt : yX6_fieldAt.cls ≠ "java/lang/invoke/MethodHandle" ∧ yX6_fieldAt.cls ≠ "java/lang/invoke/VarHandle" ∧ (parseMethodDescriptor yX6_fieldAt.desc).map (fun d => d.parameters.length) = some 1 := by decide +kernel
theorem hdX10_tick : yX10_tick.cls ≠ "java/lang/invoke/MethodHandle" ∧ yX10_tick.cls ≠ "java/lang/invoke/VarHandle" ∧ (parseMethodDescriptor yX10_tick.desc).map (fun d => d.parameters.length) = some 1 := by decide +kernel
theorem hdX11_init : yX11_init.cls ≠ "java/lang/invoke/MethodHandle" ∧ yX11_init.cls ≠ "java/lang/invoke/VarHandle" ∧ (parseMethodDescriptor yX11_init.desc).map (fun d => d.parameters.length) = some 0 := by decide +kernel
theorem hdX11_domain : yX11_domain.cls ≠ "java/lang/invoke/MethodHandle" ∧ yX11_domain.cls ≠ "java/lang/invoke/VarHandle" ∧ (parseMethodDescriptor yX11_domain.desc).map (fun d => d.parameters.length) = some 2 := by decide +kernel
theorem hdX11_isDomain : yX11_isDomain.cls ≠ "java/lang/invoke/MethodHandle" ∧ yX11_isDomain.cls ≠ "java/lang/invoke/VarHandle" ∧ (parseMethodDescriptor yX11_isDomain.desc).map (fun d => d.parameters.length) = some 1 := by decide +kernel
theorem hdX11_home : yX11_home.cls ≠ "java/lang/invoke/MethodHandle" ∧ yX11_home.cls ≠ "java/lang/invoke/VarHandle" ∧ (parseMethodDescriptor yX11_home.desc).map (fun d => d.parameters.length) = some 1 := by decide +kernel
theorem hdX11_homeOf : yX11_homeOf.cls ≠ "java/lang/invoke/MethodHandle" ∧ yX11_homeOf.cls ≠ "java/lang/invoke/VarHandle" ∧ (parseMethodDescriptor yX11_homeOf.desc).map (fun d => d.parameters.length) = some 1 := by decide +kernel
theorem hdX11_silent : yX11_silent.cls ≠ "java/lang/invoke/MethodHandle" ∧ yX11_silent.cls ≠ "java/lang/invoke/VarHandle" ∧ (parseMethodDescriptor yX11_silent.desc).map (fun d => d.parameters.length) = some 2 := by decide +kernel
theorem hdX11_host : yX11_host.cls ≠ "java/lang/invoke/MethodHandle" ∧ yX11_host.cls ≠ "java/lang/invoke/VarHandle" ∧ (parseMethodDescriptor yX11_host.desc).map (fun d => d.parameters.length) = some 3 := by decide +kernel
theorem hdX11_rule : yX11_rule.cls ≠ "java/lang/invoke/MethodHandle" ∧ yX11_rule.cls ≠ "java/lang/invoke/VarHandle" ∧ (parseMethodDescriptor yX11_rule.desc).map (fun d => d.parameters.length) = some 5 := by decide +kernel
theorem hdX11_key : yX11_key.cls ≠ "java/lang/invoke/MethodHandle" ∧ yX11_key.cls ≠ "java/lang/invoke/VarHandle" ∧ (parseMethodDescriptor yX11_key.desc).map (fun d => d.parameters.length) = some 3 := by decide +kernel
theorem hdX11_policy : yX11_policy.cls ≠ "java/lang/invoke/MethodHandle" ∧ yX11_policy.cls ≠ "java/lang/invoke/VarHandle" ∧ (parseMethodDescriptor yX11_policy.desc).map (fun d => d.parameters.length) = some 5 := by decide +kernel
theorem hdX11_sender : yX11_sender.cls ≠ "java/lang/invoke/MethodHandle" ∧ yX11_sender.cls ≠ "java/lang/invoke/VarHandle" ∧ (parseMethodDescriptor yX11_sender.desc).map (fun d => d.parameters.length) = some 0 := by decide +kernel
theorem hdX11_checkSender : yX11_checkSender.cls ≠ "java/lang/invoke/MethodHandle" ∧ yX11_checkSender.cls ≠ "java/lang/invoke/VarHandle" ∧ (parseMethodDescriptor yX11_checkSender.desc).map (fun d => d.parameters.length) = some 0 := by decide +kernel
theorem hdX11_wait : yX11_wait.cls ≠ "java/lang/invoke/MethodHandle" ∧ yX11_wait.cls ≠ "java/lang/invoke/VarHandle" ∧ (parseMethodDescriptor yX11_wait.desc).map (fun d => d.parameters.length) = some 1 := by decide +kernel
theorem hdX11_stepOn : yX11_stepOn.cls ≠ "java/lang/invoke/MethodHandle" ∧ yX11_stepOn.cls ≠ "java/lang/invoke/VarHandle" ∧ (parseMethodDescriptor yX11_stepOn.desc).map (fun d => d.parameters.length) = some 0 := by decide +kernel
theorem hdX11_back : yX11_back.cls ≠ "java/lang/invoke/MethodHandle" ∧ yX11_back.cls ≠ "java/lang/invoke/VarHandle" ∧ (parseMethodDescriptor yX11_back.desc).map (fun d => d.parameters.length) = some 1 := by decide +kernel
theorem hdX11_sendOn : yX11_sendOn.cls ≠ "java/lang/invoke/MethodHandle" ∧ yX11_sendOn.cls ≠ "java/lang/invoke/VarHandle" ∧ (parseMethodDescriptor yX11_sendOn.desc).map (fun d => d.parameters.length) = some 1 := by decide +kernel
theorem hdX11_lookup : yX11_lookup.cls ≠ "java/lang/invoke/MethodHandle" ∧ yX11_lookup.cls ≠ "java/lang/invoke/VarHandle" ∧ (parseMethodDescriptor yX11_lookup.desc).map (fun d => d.parameters.length) = some 0 := by decide +kernel
theorem hdX11_tryTerm : yX11_tryTerm.cls ≠ "java/lang/invoke/MethodHandle" ∧ yX11_tryTerm.cls ≠ "java/lang/invoke/VarHandle" ∧ (parseMethodDescriptor yX11_tryTerm.desc).map (fun d => d.parameters.length) = some 1 := by decide +kernel
theorem hdX11_agrees : yX11_agrees.cls ≠ "java/lang/invoke/MethodHandle" ∧ yX11_agrees.cls ≠ "java/lang/invoke/VarHandle" ∧ (parseMethodDescriptor yX11_agrees.desc).map (fun d => d.parameters.length) = some 2 := by decide +kernel
theorem hdX11_empty : yX11_empty.cls ≠ "java/lang/invoke/MethodHandle" ∧ yX11_empty.cls ≠ "java/lang/invoke/VarHandle" ∧ (parseMethodDescriptor yX11_empty.desc).map (fun d => d.parameters.length) = some 0 := by decide +kernel
theorem hdX11_tryExchangers : yX11_tryExchangers.cls ≠ "java/lang/invoke/MethodHandle" ∧ yX11_tryExchangers.cls ≠ "java/lang/invoke/VarHandle" ∧ (parseMethodDescriptor yX11_tryExchangers.desc).map (fun d => d.parameters.length) = some 2 := by decide +kernel
theorem hdX11_isAt : yX11_isAt.cls ≠ "java/lang/invoke/MethodHandle" ∧ yX11_isAt.cls ≠ "java/lang/invoke/VarHandle" ∧ (parseMethodDescriptor yX11_isAt.desc).map (fun d => d.parameters.length) = some 2 := by decide +kernel
theorem hdX11_counted : yX11_counted.cls ≠ "java/lang/invoke/MethodHandle" ∧ yX11_counted.cls ≠ "java/lang/invoke/VarHandle" ∧ (parseMethodDescriptor yX11_counted.desc).map (fun d => d.parameters.length) = some 1 := by decide +kernel
theorem hdX11_mail : yX11_mail.cls ≠ "java/lang/invoke/MethodHandle" ∧ yX11_mail.cls ≠ "java/lang/invoke/VarHandle" ∧ (parseMethodDescriptor yX11_mail.desc).map (fun d => d.parameters.length) = some 3 := by decide +kernel
theorem hdX11_header : yX11_header.cls ≠ "java/lang/invoke/MethodHandle" ∧ yX11_header.cls ≠ "java/lang/invoke/VarHandle" ∧ (parseMethodDescriptor yX11_header.desc).map (fun d => d.parameters.length) = some 1 := by decide +kernel
theorem hdX11_type : yX11_type.cls ≠ "java/lang/invoke/MethodHandle" ∧ yX11_type.cls ≠ "java/lang/invoke/VarHandle" ∧ (parseMethodDescriptor yX11_type.desc).map (fun d => d.parameters.length) = some 3 := by decide +kernel
theorem hdX11_isThere : yX11_isThere.cls ≠ "java/lang/invoke/MethodHandle" ∧ yX11_isThere.cls ≠ "java/lang/invoke/VarHandle" ∧ (parseMethodDescriptor yX11_isThere.desc).map (fun d => d.parameters.length) = some 1 := by decide +kernel
theorem hdX11_length : yX11_length.cls ≠ "java/lang/invoke/MethodHandle" ∧ yX11_length.cls ≠ "java/lang/invoke/VarHandle" ∧ (parseMethodDescriptor yX11_length.desc).map (fun d => d.parameters.length) = some 2 := by decide +kernel
theorem hdX11_makeBody : yX11_makeBody.cls ≠ "java/lang/invoke/MethodHandle" ∧ yX11_makeBody.cls ≠ "java/lang/invoke/VarHandle" ∧ (parseMethodDescriptor yX11_makeBody.desc).map (fun d => d.parameters.length) = some 1 := by decide +kernel
theorem hdX11_isBlank : yX11_isBlank.cls ≠ "java/lang/invoke/MethodHandle" ∧ yX11_isBlank.cls ≠ "java/lang/invoke/VarHandle" ∧ (parseMethodDescriptor yX11_isBlank.desc).map (fun d => d.parameters.length) = some 1 := by decide +kernel
theorem hdX11_add : yX11_add.cls ≠ "java/lang/invoke/MethodHandle" ∧ yX11_add.cls ≠ "java/lang/invoke/VarHandle" ∧ (parseMethodDescriptor yX11_add.desc).map (fun d => d.parameters.length) = some 1 := by decide +kernel
theorem hdX11_makeHeader : yX11_makeHeader.cls ≠ "java/lang/invoke/MethodHandle" ∧ yX11_makeHeader.cls ≠ "java/lang/invoke/VarHandle" ∧ (parseMethodDescriptor yX11_makeHeader.desc).map (fun d => d.parameters.length) = some 2 := by decide +kernel
theorem hdX11_sign : yX11_sign.cls ≠ "java/lang/invoke/MethodHandle" ∧ yX11_sign.cls ≠ "java/lang/invoke/VarHandle" ∧ (parseMethodDescriptor yX11_sign.desc).map (fun d => d.parameters.length) = some 5 := by decide +kernel
theorem hdX11_bodyLength : yX11_bodyLength.cls ≠ "java/lang/invoke/MethodHandle" ∧ yX11_bodyLength.cls ≠ "java/lang/invoke/VarHandle" ∧ (parseMethodDescriptor yX11_bodyLength.desc).map (fun d => d.parameters.length) = some 1 := by decide +kernel
theorem hdX11_make : yX11_make.cls ≠ "java/lang/invoke/MethodHandle" ∧ yX11_make.cls ≠ "java/lang/invoke/VarHandle" ∧ (parseMethodDescriptor yX11_make.desc).map (fun d => d.parameters.length) = some 7 := by decide +kernel
theorem hdX11_bodyDigest : yX11_bodyDigest.cls ≠ "java/lang/invoke/MethodHandle" ∧ yX11_bodyDigest.cls ≠ "java/lang/invoke/VarHandle" ∧ (parseMethodDescriptor yX11_bodyDigest.desc).map (fun d => d.parameters.length) = some 2 := by decide +kernel
theorem hdX11_mix : yX11_mix.cls ≠ "java/lang/invoke/MethodHandle" ∧ yX11_mix.cls ≠ "java/lang/invoke/VarHandle" ∧ (parseMethodDescriptor yX11_mix.desc).map (fun d => d.parameters.length) = some 1 := by decide +kernel
theorem hdX11_digest : yX11_digest.cls ≠ "java/lang/invoke/MethodHandle" ∧ yX11_digest.cls ≠ "java/lang/invoke/VarHandle" ∧ (parseMethodDescriptor yX11_digest.desc).map (fun d => d.parameters.length) = some 0 := by decide +kernel
theorem hdX11_sealOf : yX11_sealOf.cls ≠ "java/lang/invoke/MethodHandle" ∧ yX11_sealOf.cls ≠ "java/lang/invoke/VarHandle" ∧ (parseMethodDescriptor yX11_sealOf.desc).map (fun d => d.parameters.length) = some 1 := by decide +kernel
theorem hdX11_spoil : yX11_spoil.cls ≠ "java/lang/invoke/MethodHandle" ∧ yX11_spoil.cls ≠ "java/lang/invoke/VarHandle" ∧ (parseMethodDescriptor yX11_spoil.desc).map (fun d => d.parameters.length) = some 2 := by decide +kernel
theorem hdX11_signature : yX11_signature.cls ≠ "java/lang/invoke/MethodHandle" ∧ yX11_signature.cls ≠ "java/lang/invoke/VarHandle" ∧ (parseMethodDescriptor yX11_signature.desc).map (fun d => d.parameters.length) = some 1 := by decide +kernel
theorem hdX11_checkSignature : yX11_checkSignature.cls ≠ "java/lang/invoke/MethodHandle" ∧ yX11_checkSignature.cls ≠ "java/lang/invoke/VarHandle" ∧ (parseMethodDescriptor yX11_checkSignature.desc).map (fun d => d.parameters.length) = some 1 := by decide +kernel
theorem hdX11_chain : yX11_chain.cls ≠ "java/lang/invoke/MethodHandle" ∧ yX11_chain.cls ≠ "java/lang/invoke/VarHandle" ∧ (parseMethodDescriptor yX11_chain.desc).map (fun d => d.parameters.length) = some 0 := by decide +kernel
theorem hdX11_chainState : yX11_chainState.cls ≠ "java/lang/invoke/MethodHandle" ∧ yX11_chainState.cls ≠ "java/lang/invoke/VarHandle" ∧ (parseMethodDescriptor yX11_chainState.desc).map (fun d => d.parameters.length) = some 0 := by decide +kernel
theorem hdX11_coverOf : yX11_coverOf.cls ≠ "java/lang/invoke/MethodHandle" ∧ yX11_coverOf.cls ≠ "java/lang/invoke/VarHandle" ∧ (parseMethodDescriptor yX11_coverOf.desc).map (fun d => d.parameters.length) = some 1 := by decide +kernel
theorem hdX11_link : yX11_link.cls ≠ "java/lang/invoke/MethodHandle" ∧ yX11_link.cls ≠ "java/lang/invoke/VarHandle" ∧ (parseMethodDescriptor yX11_link.desc).map (fun d => d.parameters.length) = some 2 := by decide +kernel
theorem hdX11_judge : yX11_judge.cls ≠ "java/lang/invoke/MethodHandle" ∧ yX11_judge.cls ≠ "java/lang/invoke/VarHandle" ∧ (parseMethodDescriptor yX11_judge.desc).map (fun d => d.parameters.length) = some 1 := by decide +kernel
theorem hdX11_isNear : yX11_isNear.cls ≠ "java/lang/invoke/MethodHandle" ∧ yX11_isNear.cls ≠ "java/lang/invoke/VarHandle" ∧ (parseMethodDescriptor yX11_isNear.desc).map (fun d => d.parameters.length) = some 2 := by decide +kernel
theorem hdX11_report : yX11_report.cls ≠ "java/lang/invoke/MethodHandle" ∧ yX11_report.cls ≠ "java/lang/invoke/VarHandle" ∧ (parseMethodDescriptor yX11_report.desc).map (fun d => d.parameters.length) = some 2 := by decide +kernel
theorem hdX11_row : yX11_row.cls ≠ "java/lang/invoke/MethodHandle" ∧ yX11_row.cls ≠ "java/lang/invoke/VarHandle" ∧ (parseMethodDescriptor yX11_row.desc).map (fun d => d.parameters.length) = some 2 := by decide +kernel
theorem hdX11_tick : yX11_tick.cls ≠ "java/lang/invoke/MethodHandle" ∧ yX11_tick.cls ≠ "java/lang/invoke/VarHandle" ∧ (parseMethodDescriptor yX11_tick.desc).map (fun d => d.parameters.length) = some 1 := by decide +kernel
