def TAs : u_T := fun k => match k with
  | 0 => ("StepCourt$Assertion", "isOpen", "Z", false)
  | 1 => ("StepCourt$Assertion", "everMade", "Z", false)
  | 2 => ("StepCourt$Assertion", "asserter", "I", false)
  | 3 => ("StepCourt$Assertion", "steps", "I", false)
  | 4 => ("StepCourt$Assertion", "limit", "I", false)
  | 5 => ("StepCourt$Assertion", "madeAt", "I", false)
  | _ => ("StepCourt$Assertion", "claim", "J", false)
def tyAs : Nat → FieldType := fun k => match k with
  | 0 => .boolean
  | 1 => .boolean
  | 2 => .int
  | 3 => .int
  | 4 => .int
  | 5 => .int
  | _ => .long
theorem nmAs : ∀ a, a < 7 → ∀ b, b < 7 → a ≠ b → (TAs a).2.1 ≠ (TAs b).2.1 := by decide +kernel
theorem tyAs_ok : ∀ k, k < 7 → parseFieldDescriptor (TAs k).2.2.1 = some (tyAs k) := by decide +kernel
def TCo : u_T := fun k => match k with
  | 0 => ("StepCourt$Code", "ops", "[I", true)
  | _ => ("StepCourt$Code", "arguments", "[I", true)
def tyCo : Nat → FieldType := fun k => match k with
  | 0 => .array .int
  | _ => .array .int
theorem nmCo : ∀ a, a < 2 → ∀ b, b < 2 → a ≠ b → (TCo a).2.1 ≠ (TCo b).2.1 := by decide +kernel
theorem tyCo_ok : ∀ k, k < 2 → parseFieldDescriptor (TCo k).2.2.1 = some (tyCo k) := by decide +kernel
def TGa : u_T := fun k => match k with
  | 0 => ("StepCourt$Game", "challenger", "I", false)
  | 1 => ("StepCourt$Game", "low", "I", false)
  | 2 => ("StepCourt$Game", "high", "I", false)
  | 3 => ("StepCourt$Game", "agreed", "J", false)
  | 4 => ("StepCourt$Game", "disputed", "J", false)
  | 5 => ("StepCourt$Game", "middle", "J", false)
  | 6 => ("StepCourt$Game", "hasMiddle", "Z", false)
  | 7 => ("StepCourt$Game", "deadline", "I", false)
  | _ => ("StepCourt$Game", "isRunning", "Z", false)
def tyGa : Nat → FieldType := fun k => match k with
  | 0 => .int
  | 1 => .int
  | 2 => .int
  | 3 => .long
  | 4 => .long
  | 5 => .long
  | 6 => .boolean
  | 7 => .int
  | _ => .boolean
theorem nmGa : ∀ a, a < 9 → ∀ b, b < 9 → a ≠ b → (TGa a).2.1 ≠ (TGa b).2.1 := by decide +kernel
theorem tyGa_ok : ∀ k, k < 9 → parseFieldDescriptor (TGa k).2.2.1 = some (tyGa k) := by decide +kernel
def TIn : u_T := fun k => match k with
  | 0 => ("StepCourt$Inbox", "words", "[I", true)
  | _ => ("StepCourt$Inbox", "size", "I", false)
def tyIn : Nat → FieldType := fun k => match k with
  | 0 => .array .int
  | _ => .int
theorem nmIn : ∀ a, a < 2 → ∀ b, b < 2 → a ≠ b → (TIn a).2.1 ≠ (TIn b).2.1 := by decide +kernel
theorem tyIn_ok : ∀ k, k < 2 → parseFieldDescriptor (TIn k).2.2.1 = some (tyIn k) := by decide +kernel
def TMa : u_T := fun k => match k with
  | 0 => ("StepCourt$Machine", "cells", "[I", true)
  | 1 => ("StepCourt$Machine", "tree", "[J", true)
  | 2 => ("StepCourt$Machine", "pc", "I", false)
  | 3 => ("StepCourt$Machine", "a", "I", false)
  | 4 => ("StepCourt$Machine", "b", "I", false)
  | 5 => ("StepCourt$Machine", "read", "I", false)
  | 6 => ("StepCourt$Machine", "paid", "I", false)
  | _ => ("StepCourt$Machine", "trail", "J", false)
def tyMa : Nat → FieldType := fun k => match k with
  | 0 => .array .int
  | 1 => .array .long
  | 2 => .int
  | 3 => .int
  | 4 => .int
  | 5 => .int
  | 6 => .int
  | _ => .long
theorem nmMa : ∀ a, a < 8 → ∀ b, b < 8 → a ≠ b → (TMa a).2.1 ≠ (TMa b).2.1 := by decide +kernel
theorem tyMa_ok : ∀ k, k < 8 → parseFieldDescriptor (TMa k).2.2.1 = some (tyMa k) := by decide +kernel
def TPa : u_T := fun k => match k with
  | 0 => ("StepCourt$Payments", "receivers", "[I", true)
  | 1 => ("StepCourt$Payments", "amounts", "[I", true)
  | 2 => ("StepCourt$Payments", "drawn", "[Z", true)
  | _ => ("StepCourt$Payments", "count", "I", false)
def tyPa : Nat → FieldType := fun k => match k with
  | 0 => .array .int
  | 1 => .array .int
  | 2 => .array .boolean
  | _ => .int
theorem nmPa : ∀ a, a < 4 → ∀ b, b < 4 → a ≠ b → (TPa a).2.1 ≠ (TPa b).2.1 := by decide +kernel
theorem tyPa_ok : ∀ k, k < 4 → parseFieldDescriptor (TPa k).2.2.1 = some (tyPa k) := by decide +kernel
def TPr : u_T := fun k => match k with
  | 0 => ("StepCourt$Proof", "given", "LStepCourt$Machine;", true)
  | 1 => ("StepCourt$Proof", "others", "[J", true)
  | 2 => ("StepCourt$Proof", "cell", "I", false)
  | _ => ("StepCourt$Proof", "place", "I", false)
def tyPr : Nat → FieldType := fun k => match k with
  | 0 => .object "StepCourt$Machine"
  | 1 => .array .long
  | 2 => .int
  | _ => .int
theorem nmPr : ∀ a, a < 4 → ∀ b, b < 4 → a ≠ b → (TPr a).2.1 ≠ (TPr b).2.1 := by decide +kernel
theorem tyPr_ok : ∀ k, k < 4 → parseFieldDescriptor (TPr k).2.2.1 = some (tyPr k) := by decide +kernel
def TSc : u_T := fun k => match k with
  | 0 => ("StepCourt", "balances", "[I", true)
  | 1 => ("StepCourt", "code", "LStepCourt$Code;", true)
  | 2 => ("StepCourt", "inbox", "LStepCourt$Inbox;", true)
  | 3 => ("StepCourt", "trueState", "LStepCourt$Machine;", true)
  | 4 => ("StepCourt", "scratch", "LStepCourt$Machine;", true)
  | 5 => ("StepCourt", "payments", "LStepCourt$Payments;", true)
  | 6 => ("StepCourt", "proof", "LStepCourt$Proof;", true)
  | 7 => ("StepCourt", "assertion", "LStepCourt$Assertion;", true)
  | 8 => ("StepCourt", "games", "[LStepCourt$Game;", true)
  | 9 => ("StepCourt", "gameCount", "I", false)
  | 10 => ("StepCourt", "pot", "I", false)
  | 11 => ("StepCourt", "blockNumber", "I", false)
  | _ => ("StepCourt", "base", "J", false)
def tySc : Nat → FieldType := fun k => match k with
  | 0 => .array .int
  | 1 => .object "StepCourt$Code"
  | 2 => .object "StepCourt$Inbox"
  | 3 => .object "StepCourt$Machine"
  | 4 => .object "StepCourt$Machine"
  | 5 => .object "StepCourt$Payments"
  | 6 => .object "StepCourt$Proof"
  | 7 => .object "StepCourt$Assertion"
  | 8 => .array (.object "StepCourt$Game")
  | 9 => .int
  | 10 => .int
  | 11 => .int
  | _ => .long
theorem nmSc : ∀ a, a < 13 → ∀ b, b < 13 → a ≠ b → (TSc a).2.1 ≠ (TSc b).2.1 := by decide +kernel
theorem tySc_ok : ∀ k, k < 13 → parseFieldDescriptor (TSc k).2.2.1 = some (tySc k) := by decide +kernel
def TMo : u_T := fun k => match k with
  | 0 => ("StepCourtModel", "thrown", "I", false)
  | 1 => ("StepCourtModel", "op", "[I", true)
  | 2 => ("StepCourtModel", "argument", "[I", true)
  | 3 => ("StepCourtModel", "sealed", "Z", false)
  | 4 => ("StepCourtModel", "balance", "[I", true)
  | 5 => ("StepCourtModel", "pot", "I", false)
  | 6 => ("StepCourtModel", "words", "I", false)
  | 7 => ("StepCourtModel", "inbox", "[I", true)
  | 8 => ("StepCourtModel", "blocks", "I", false)
  | 9 => ("StepCourtModel", "real", "[I", true)
  | 10 => ("StepCourtModel", "realTrail", "J", false)
  | 11 => ("StepCourtModel", "hand", "[I", true)
  | 12 => ("StepCourtModel", "handTrail", "J", false)
  | 13 => ("StepCourtModel", "payee", "[I", true)
  | 14 => ("StepCourtModel", "paid", "[I", true)
  | 15 => ("StepCourtModel", "drawn", "[Z", true)
  | 16 => ("StepCourtModel", "base", "J", false)
  | 17 => ("StepCourtModel", "asserted", "Z", false)
  | 18 => ("StepCourtModel", "asserter", "I", false)
  | 19 => ("StepCourtModel", "span", "I", false)
  | 20 => ("StepCourtModel", "limit", "I", false)
  | 21 => ("StepCourtModel", "made", "I", false)
  | 22 => ("StepCourtModel", "claim", "J", false)
  | 23 => ("StepCourtModel", "games", "I", false)
  | 24 => ("StepCourtModel", "challenger", "[I", true)
  | 25 => ("StepCourtModel", "low", "[I", true)
  | 26 => ("StepCourtModel", "high", "[I", true)
  | 27 => ("StepCourtModel", "agreed", "[J", true)
  | 28 => ("StepCourtModel", "disputed", "[J", true)
  | 29 => ("StepCourtModel", "posted", "[Z", true)
  | 30 => ("StepCourtModel", "middle", "[J", true)
  | 31 => ("StepCourtModel", "deadline", "[I", true)
  | 32 => ("StepCourtModel", "running", "[Z", true)
  | 33 => ("StepCourtModel", "node", "[J", true)
  | _ => ("StepCourtModel", "side", "[J", true)
def tyMo : Nat → FieldType := fun k => match k with
  | 0 => .int
  | 1 => .array .int
  | 2 => .array .int
  | 3 => .boolean
  | 4 => .array .int
  | 5 => .int
  | 6 => .int
  | 7 => .array .int
  | 8 => .int
  | 9 => .array .int
  | 10 => .long
  | 11 => .array .int
  | 12 => .long
  | 13 => .array .int
  | 14 => .array .int
  | 15 => .array .boolean
  | 16 => .long
  | 17 => .boolean
  | 18 => .int
  | 19 => .int
  | 20 => .int
  | 21 => .int
  | 22 => .long
  | 23 => .int
  | 24 => .array .int
  | 25 => .array .int
  | 26 => .array .int
  | 27 => .array .long
  | 28 => .array .long
  | 29 => .array .boolean
  | 30 => .array .long
  | 31 => .array .int
  | 32 => .array .boolean
  | 33 => .array .long
  | _ => .array .long
theorem nmMo : ∀ a, a < 35 → ∀ b, b < 35 → a ≠ b → (TMo a).2.1 ≠ (TMo b).2.1 := by decide +kernel
theorem tyMo_ok : ∀ k, k < 35 → parseFieldDescriptor (TMo k).2.2.1 = some (tyMo k) := by decide +kernel
abbrev cSc_init : ByteArray := prog_1_method_1_code
abbrev ySc_init : MethodName := ⟨"StepCourt", "<init>", "()V"⟩
abbrev cCo_init : ByteArray := prog_3_method_1_code
abbrev yCo_init : MethodName := ⟨"StepCourt$Code", "<init>", "()V"⟩
abbrev cIn_init : ByteArray := prog_5_method_1_code
abbrev yIn_init : MethodName := ⟨"StepCourt$Inbox", "<init>", "()V"⟩
abbrev cMa_init : ByteArray := prog_6_method_1_code
abbrev yMa_init : MethodName := ⟨"StepCourt$Machine", "<init>", "()V"⟩
abbrev cPa_init : ByteArray := prog_8_method_1_code
abbrev yPa_init : MethodName := ⟨"StepCourt$Payments", "<init>", "()V"⟩
abbrev cPr_init : ByteArray := prog_9_method_1_code
abbrev yPr_init : MethodName := ⟨"StepCourt$Proof", "<init>", "()V"⟩
abbrev cAs_init : ByteArray := prog_2_method_1_code
abbrev yAs_init : MethodName := ⟨"StepCourt$Assertion", "<init>", "()V"⟩
abbrev cGa_init : ByteArray := prog_4_method_1_code
abbrev yGa_init : MethodName := ⟨"StepCourt$Game", "<init>", "()V"⟩
abbrev cMa_commitment : ByteArray := prog_6_method_11_code
abbrev yMa_commitment : MethodName := ⟨"StepCourt$Machine", "commitment", "()J"⟩
abbrev cMa_growTree : ByteArray := prog_6_method_10_code
abbrev yMa_growTree : MethodName := ⟨"StepCourt$Machine", "growTree", "()V"⟩
abbrev cMi_mixLeaf : ByteArray := prog_7_method_3_code
abbrev yMi_mixLeaf : MethodName := ⟨"StepCourt$Mixer", "mixLeaf", "(I)J"⟩
abbrev cMi_mix : ByteArray := prog_7_method_2_code
abbrev yMi_mix : MethodName := ⟨"StepCourt$Mixer", "mix", "(JJ)J"⟩
abbrev cMi_mixPair : ByteArray := prog_7_method_4_code
abbrev yMi_mixPair : MethodName := ⟨"StepCourt$Mixer", "mixPair", "(JJ)J"⟩
abbrev cMa_commitmentWith : ByteArray := prog_6_method_12_code
abbrev yMa_commitmentWith : MethodName := ⟨"StepCourt$Machine", "commitmentWith", "(J)J"⟩
abbrev cSc_code : ByteArray := prog_1_method_2_code
abbrev ySc_code : MethodName := ⟨"StepCourt", "code", "(III)Z"⟩
abbrev cSc_block : ByteArray := prog_1_method_10_code
abbrev ySc_block : MethodName := ⟨"StepCourt", "block", "()I"⟩
abbrev cSc_endLateGames : ByteArray := prog_1_method_31_code
abbrev ySc_endLateGames : MethodName := ⟨"StepCourt", "endLateGames", "()V"⟩
abbrev cGa_duty : ByteArray := prog_4_method_8_code
abbrev yGa_duty : MethodName := ⟨"StepCourt$Game", "duty", "()I"⟩
abbrev cSc_challengerWins : ByteArray := prog_1_method_33_code
abbrev ySc_challengerWins : MethodName := ⟨"StepCourt", "challengerWins", "(LStepCourt$Game;)V"⟩
abbrev cSc_pay : ByteArray := prog_1_method_25_code
abbrev ySc_pay : MethodName := ⟨"StepCourt", "pay", "(II)V"⟩
abbrev cSc_isParty : ByteArray := prog_1_method_20_code
abbrev ySc_isParty : MethodName := ⟨"StepCourt", "isParty", "(I)Z"⟩
abbrev cSc_closeAssertion : ByteArray := prog_1_method_36_code
abbrev ySc_closeAssertion : MethodName := ⟨"StepCourt", "closeAssertion", "()V"⟩
abbrev cSc_asserterWins : ByteArray := prog_1_method_32_code
abbrev ySc_asserterWins : MethodName := ⟨"StepCourt", "asserterWins", "(LStepCourt$Game;)V"⟩
abbrev cSc_standIfDue : ByteArray := prog_1_method_34_code
abbrev ySc_standIfDue : MethodName := ⟨"StepCourt", "standIfDue", "()V"⟩
abbrev cSc_countRunning : ByteArray := prog_1_method_27_code
abbrev ySc_countRunning : MethodName := ⟨"StepCourt", "countRunning", "()I"⟩
abbrev cSc_moveTrueState : ByteArray := prog_1_method_35_code
abbrev ySc_moveTrueState : MethodName := ⟨"StepCourt", "moveTrueState", "()V"⟩
abbrev cMa_step : ByteArray := prog_6_method_6_code
abbrev yMa_step : MethodName := ⟨"StepCourt$Machine", "step", "(LStepCourt$Code;LStepCourt$Inbox;I)V"⟩
abbrev cMa_exchange : ByteArray := prog_6_method_7_code
abbrev yMa_exchange : MethodName := ⟨"StepCourt$Machine", "exchange", "()V"⟩
abbrev cMa_cellPlace : ByteArray := prog_6_method_3_code
abbrev yMa_cellPlace : MethodName := ⟨"StepCourt$Machine", "cellPlace", "()I"⟩
abbrev cMa_takeWord : ByteArray := prog_6_method_8_code
abbrev yMa_takeWord : MethodName := ⟨"StepCourt$Machine", "takeWord", "(LStepCourt$Inbox;I)Z"⟩
abbrev cIn_at : ByteArray := prog_5_method_4_code
abbrev yIn_at : MethodName := ⟨"StepCourt$Inbox", "at", "(I)I"⟩
abbrev cMa_makePayment : ByteArray := prog_6_method_9_code
abbrev yMa_makePayment : MethodName := ⟨"StepCourt$Machine", "makePayment", "()Z"⟩
abbrev cMa_receiver : ByteArray := prog_6_method_4_code
abbrev yMa_receiver : MethodName := ⟨"StepCourt$Machine", "receiver", "()I"⟩
abbrev cPa_add : ByteArray := prog_8_method_2_code
abbrev yPa_add : MethodName := ⟨"StepCourt$Payments", "add", "(II)V"⟩
abbrev cSc_balance : ByteArray := prog_1_method_12_code
abbrev ySc_balance : MethodName := ⟨"StepCourt", "balance", "(I)I"⟩
abbrev cSc_pot : ByteArray := prog_1_method_13_code
abbrev ySc_pot : MethodName := ⟨"StepCourt", "pot", "()I"⟩
abbrev cSc_word : ByteArray := prog_1_method_14_code
abbrev ySc_word : MethodName := ⟨"StepCourt", "word", "(I)I"⟩
abbrev cSc_truth : ByteArray := prog_1_method_15_code
abbrev ySc_truth : MethodName := ⟨"StepCourt", "truth", "(I)J"⟩
abbrev cSc_trueCommitment : ByteArray := prog_1_method_28_code
abbrev ySc_trueCommitment : MethodName := ⟨"StepCourt", "trueCommitment", "(I)J"⟩
abbrev cSc_runScratch : ByteArray := prog_1_method_29_code
abbrev ySc_runScratch : MethodName := ⟨"StepCourt", "runScratch", "(II)V"⟩
abbrev cMa_copyFrom : ByteArray := prog_6_method_2_code
abbrev yMa_copyFrom : MethodName := ⟨"StepCourt$Machine", "copyFrom", "(LStepCourt$Machine;)V"⟩
abbrev cSc_base : ByteArray := prog_1_method_16_code
abbrev ySc_base : MethodName := ⟨"StepCourt", "base", "()J"⟩
abbrev cSc_state : ByteArray := prog_1_method_17_code
abbrev ySc_state : MethodName := ⟨"StepCourt", "state", "(I)J"⟩
abbrev cMa_cellOrZero : ByteArray := prog_6_method_5_code
abbrev yMa_cellOrZero : MethodName := ⟨"StepCourt$Machine", "cellOrZero", "(J)J"⟩
abbrev cSc_assertion : ByteArray := prog_1_method_18_code
abbrev ySc_assertion : MethodName := ⟨"StepCourt", "assertion", "(I)J"⟩
abbrev cSc_game : ByteArray := prog_1_method_19_code
abbrev ySc_game : MethodName := ⟨"StepCourt", "game", "(II)J"⟩
abbrev cSc_isGame : ByteArray := prog_1_method_22_code
abbrev ySc_isGame : MethodName := ⟨"StepCourt", "isGame", "(I)Z"⟩
abbrev cLa_deposit : ByteArray := method_3_code
abbrev yLa_deposit : MethodName := ⟨"StepCourtLaw", "deposit", "(LStepCourt;II[J)I"⟩
abbrev cSc_deposit : ByteArray := prog_1_method_3_code
abbrev ySc_deposit : MethodName := ⟨"StepCourt", "deposit", "(II)I"⟩
abbrev cSc_requireParty : ByteArray := prog_1_method_21_code
abbrev ySc_requireParty : MethodName := ⟨"StepCourt", "requireParty", "(I)V"⟩
abbrev cIn_room : ByteArray := prog_5_method_2_code
abbrev yIn_room : MethodName := ⟨"StepCourt$Inbox", "room", "()I"⟩
abbrev cIn_add : ByteArray := prog_5_method_3_code
abbrev yIn_add : MethodName := ⟨"StepCourt$Inbox", "add", "(I)V"⟩
abbrev cLa_send : ByteArray := method_4_code
abbrev yLa_send : MethodName := ⟨"StepCourtLaw", "send", "(LStepCourt;I[J)I"⟩
abbrev cSc_send : ByteArray := prog_1_method_4_code
abbrev ySc_send : MethodName := ⟨"StepCourt", "send", "(I)I"⟩
abbrev cLa_claim : ByteArray := method_5_code
abbrev yLa_claim : MethodName := ⟨"StepCourtLaw", "claim", "(LStepCourt;IIJ[J)I"⟩
abbrev cSc_claim : ByteArray := prog_1_method_5_code
abbrev ySc_claim : MethodName := ⟨"StepCourt", "claim", "(IIJ)J"⟩
abbrev cSc_takeStake : ByteArray := prog_1_method_24_code
abbrev ySc_takeStake : MethodName := ⟨"StepCourt", "takeStake", "(I)V"⟩
abbrev cAs_open : ByteArray := prog_2_method_2_code
abbrev yAs_open : MethodName := ⟨"StepCourt$Assertion", "open", "(IIII)V"⟩
abbrev cLa_challenge : ByteArray := method_6_code
abbrev yLa_challenge : MethodName := ⟨"StepCourtLaw", "challenge", "(LStepCourt;I[J)I"⟩
abbrev cSc_challenge : ByteArray := prog_1_method_6_code
abbrev ySc_challenge : MethodName := ⟨"StepCourt", "challenge", "(I)I"⟩
abbrev cSc_hasChallenged : ByteArray := prog_1_method_26_code
abbrev ySc_hasChallenged : MethodName := ⟨"StepCourt", "hasChallenged", "(I)Z"⟩
abbrev cGa_begin : ByteArray := prog_4_method_2_code
abbrev yGa_begin : MethodName := ⟨"StepCourt$Game", "begin", "(IIJJ)V"⟩
abbrev cGa_clearMiddle : ByteArray := prog_4_method_6_code
abbrev yGa_clearMiddle : MethodName := ⟨"StepCourt$Game", "clearMiddle", "()V"⟩
abbrev cGa_setDeadline : ByteArray := prog_4_method_3_code
abbrev yGa_setDeadline : MethodName := ⟨"StepCourt$Game", "setDeadline", "(I)V"⟩
abbrev cLa_post : ByteArray := method_7_code
abbrev yLa_post : MethodName := ⟨"StepCourtLaw", "post", "(LStepCourt;IJ[J)I"⟩
abbrev cSc_post : ByteArray := prog_1_method_7_code
abbrev ySc_post : MethodName := ⟨"StepCourt", "post", "(IJ)J"⟩
abbrev cSc_gameWithDuty : ByteArray := prog_1_method_23_code
abbrev ySc_gameWithDuty : MethodName := ⟨"StepCourt", "gameWithDuty", "(II)LStepCourt$Game;"⟩
abbrev cGa_middleStep : ByteArray := prog_4_method_4_code
abbrev yGa_middleStep : MethodName := ⟨"StepCourt$Game", "middleStep", "()I"⟩
abbrev cGa_setMiddle : ByteArray := prog_4_method_5_code
abbrev yGa_setMiddle : MethodName := ⟨"StepCourt$Game", "setMiddle", "(J)V"⟩
abbrev cLa_pick : ByteArray := method_8_code
abbrev yLa_pick : MethodName := ⟨"StepCourtLaw", "pick", "(LStepCourt;IZ[J)I"⟩
abbrev cSc_pick : ByteArray := prog_1_method_8_code
abbrev ySc_pick : MethodName := ⟨"StepCourt", "pick", "(IZ)I"⟩
abbrev cGa_halve : ByteArray := prog_4_method_7_code
abbrev yGa_halve : MethodName := ⟨"StepCourt$Game", "halve", "(Z)V"⟩
abbrev cLa_prove : ByteArray := method_9_code
abbrev yLa_prove : MethodName := ⟨"StepCourtLaw", "prove", "(LStepCourt;III[J)I"⟩
abbrev cSc_prove : ByteArray := prog_1_method_9_code
abbrev ySc_prove : MethodName := ⟨"StepCourt", "prove", "(III)Z"⟩
abbrev cPr_takeFrom : ByteArray := prog_9_method_2_code
abbrev yPr_takeFrom : MethodName := ⟨"StepCourt$Proof", "takeFrom", "(LStepCourt$Machine;)V"⟩
abbrev cPr_alter : ByteArray := prog_9_method_3_code
abbrev yPr_alter : MethodName := ⟨"StepCourt$Proof", "alter", "(II)V"⟩
abbrev cPr_alterOther : ByteArray := prog_9_method_4_code
abbrev yPr_alterOther : MethodName := ⟨"StepCourt$Proof", "alterOther", "(II)V"⟩
abbrev cSc_proofLeads : ByteArray := prog_1_method_30_code
abbrev ySc_proofLeads : MethodName := ⟨"StepCourt", "proofLeads", "(JJ)Z"⟩
abbrev cPr_commitment : ByteArray := prog_9_method_6_code
abbrev yPr_commitment : MethodName := ⟨"StepCourt$Proof", "commitment", "()J"⟩
abbrev cPr_hasPlaceInCode : ByteArray := prog_9_method_5_code
abbrev yPr_hasPlaceInCode : MethodName := ⟨"StepCourt$Proof", "hasPlaceInCode", "()Z"⟩
abbrev cLa_draw : ByteArray := method_10_code
abbrev yLa_draw : MethodName := ⟨"StepCourtLaw", "draw", "(LStepCourt;I[J)I"⟩
abbrev cSc_draw : ByteArray := prog_1_method_11_code
abbrev ySc_draw : MethodName := ⟨"StepCourt", "draw", "(I)I"⟩
abbrev cMo_init : ByteArray := prog_11_method_1_code
abbrev yMo_init : MethodName := ⟨"StepCourtModel", "<init>", "()V"⟩
abbrev cMo_take : ByteArray := prog_11_method_6_code
abbrev yMo_take : MethodName := ⟨"StepCourtModel", "take", "()V"⟩
abbrev cMo_commitment : ByteArray := prog_11_method_9_code
abbrev yMo_commitment : MethodName := ⟨"StepCourtModel", "commitment", "()J"⟩
abbrev cMo_tree : ByteArray := prog_11_method_8_code
abbrev yMo_tree : MethodName := ⟨"StepCourtModel", "tree", "()V"⟩
abbrev cMo_mix : ByteArray := prog_11_method_4_code
abbrev yMo_mix : MethodName := ⟨"StepCourtModel", "mix", "(JJ)J"⟩
abbrev cMo_pair : ByteArray := prog_11_method_5_code
abbrev yMo_pair : MethodName := ⟨"StepCourtModel", "pair", "(JJ)J"⟩
abbrev cMo_whole : ByteArray := prog_11_method_7_code
abbrev yMo_whole : MethodName := ⟨"StepCourtModel", "whole", "(JJJJJJJ)J"⟩
abbrev cMo_code : ByteArray := prog_11_method_15_code
abbrev yMo_code : MethodName := ⟨"StepCourtModel", "code", "(III)Z"⟩
abbrev cMo_deposit : ByteArray := prog_11_method_17_code
abbrev yMo_deposit : MethodName := ⟨"StepCourtModel", "deposit", "(II)I"⟩
abbrev cMo_isParty : ByteArray := prog_11_method_14_code
abbrev yMo_isParty : MethodName := ⟨"StepCourtModel", "isParty", "(I)Z"⟩
abbrev cMo_raise : ByteArray := prog_11_method_3_code
abbrev yMo_raise : MethodName := ⟨"StepCourtModel", "raise", "(I)I"⟩
abbrev cMo_push : ByteArray := prog_11_method_16_code
abbrev yMo_push : MethodName := ⟨"StepCourtModel", "push", "(I)V"⟩
abbrev cMo_send : ByteArray := prog_11_method_18_code
abbrev yMo_send : MethodName := ⟨"StepCourtModel", "send", "(I)I"⟩
abbrev cMo_claim : ByteArray := prog_11_method_19_code
abbrev yMo_claim : MethodName := ⟨"StepCourtModel", "claim", "(IIJ)J"⟩
abbrev cMo_trueCommitment : ByteArray := prog_11_method_13_code
abbrev yMo_trueCommitment : MethodName := ⟨"StepCourtModel", "trueCommitment", "(I)J"⟩
abbrev cMo_after : ByteArray := prog_11_method_12_code
abbrev yMo_after : MethodName := ⟨"StepCourtModel", "after", "(II)V"⟩
abbrev cMo_step : ByteArray := prog_11_method_11_code
abbrev yMo_step : MethodName := ⟨"StepCourtModel", "step", "(I)V"⟩
abbrev cMo_wordAt : ByteArray := prog_11_method_10_code
abbrev yMo_wordAt : MethodName := ⟨"StepCourtModel", "wordAt", "(I)I"⟩
abbrev cMo_challenge : ByteArray := prog_11_method_20_code
abbrev yMo_challenge : MethodName := ⟨"StepCourtModel", "challenge", "(I)I"⟩
abbrev cMo_post : ByteArray := prog_11_method_28_code
abbrev yMo_post : MethodName := ⟨"StepCourtModel", "post", "(IJ)J"⟩
abbrev cMo_isGame : ByteArray := prog_11_method_27_code
abbrev yMo_isGame : MethodName := ⟨"StepCourtModel", "isGame", "(I)Z"⟩
abbrev cMo_due : ByteArray := prog_11_method_21_code
abbrev yMo_due : MethodName := ⟨"StepCourtModel", "due", "(I)I"⟩
abbrev cMo_pick : ByteArray := prog_11_method_29_code
abbrev yMo_pick : MethodName := ⟨"StepCourtModel", "pick", "(IZ)I"⟩
abbrev cMo_prove : ByteArray := prog_11_method_32_code
abbrev yMo_prove : MethodName := ⟨"StepCourtModel", "prove", "(III)Z"⟩
abbrev cMo_proves : ByteArray := prog_11_method_31_code
abbrev yMo_proves : MethodName := ⟨"StepCourtModel", "proves", "(III)Z"⟩
abbrev cMo_rootOf : ByteArray := prog_11_method_30_code
abbrev yMo_rootOf : MethodName := ⟨"StepCourtModel", "rootOf", "(JI)J"⟩
abbrev cMo_keep : ByteArray := prog_11_method_25_code
abbrev yMo_keep : MethodName := ⟨"StepCourtModel", "keep", "(I)V"⟩
abbrev cMo_settle : ByteArray := prog_11_method_26_code
abbrev yMo_settle : MethodName := ⟨"StepCourtModel", "settle", "()V"⟩
abbrev cMo_runningGames : ByteArray := prog_11_method_22_code
abbrev yMo_runningGames : MethodName := ⟨"StepCourtModel", "runningGames", "()I"⟩
abbrev cMo_noAssertion : ByteArray := prog_11_method_23_code
abbrev yMo_noAssertion : MethodName := ⟨"StepCourtModel", "noAssertion", "()V"⟩
abbrev cMo_block : ByteArray := prog_11_method_33_code
abbrev yMo_block : MethodName := ⟨"StepCourtModel", "block", "()I"⟩
abbrev cMo_fall : ByteArray := prog_11_method_24_code
abbrev yMo_fall : MethodName := ⟨"StepCourtModel", "fall", "(I)V"⟩
abbrev cMo_draw : ByteArray := prog_11_method_35_code
abbrev yMo_draw : MethodName := ⟨"StepCourtModel", "draw", "(I)I"⟩
abbrev cMo_realCommitment : ByteArray := prog_11_method_34_code
abbrev yMo_realCommitment : MethodName := ⟨"StepCourtModel", "realCommitment", "()J"⟩
abbrev cMo_balance : ByteArray := prog_11_method_36_code
abbrev yMo_balance : MethodName := ⟨"StepCourtModel", "balance", "(I)I"⟩
abbrev cMo_pot : ByteArray := prog_11_method_37_code
abbrev yMo_pot : MethodName := ⟨"StepCourtModel", "pot", "()I"⟩
abbrev cMo_word : ByteArray := prog_11_method_38_code
abbrev yMo_word : MethodName := ⟨"StepCourtModel", "word", "(I)I"⟩
abbrev cMo_truth : ByteArray := prog_11_method_39_code
abbrev yMo_truth : MethodName := ⟨"StepCourtModel", "truth", "(I)J"⟩
abbrev cMo_base : ByteArray := prog_11_method_40_code
abbrev yMo_base : MethodName := ⟨"StepCourtModel", "base", "()J"⟩
abbrev cMo_state : ByteArray := prog_11_method_41_code
abbrev yMo_state : MethodName := ⟨"StepCourtModel", "state", "(I)J"⟩
abbrev cMo_assertion : ByteArray := prog_11_method_42_code
abbrev yMo_assertion : MethodName := ⟨"StepCourtModel", "assertion", "(I)J"⟩
abbrev cMo_game : ByteArray := prog_11_method_43_code
abbrev yMo_game : MethodName := ⟨"StepCourtModel", "game", "(II)J"⟩
abbrev cLa_law : ByteArray := code
abbrev yLa_law : MethodName := ⟨"StepCourtLaw", "law", "([I)Z"⟩
abbrev vwCl : List vw_C := [("StepCourt$Assertion", TAs, 7), ("StepCourt$Code", TCo, 2), ("StepCourt$Game", TGa, 9), ("StepCourt$Inbox", TIn, 2), ("StepCourt$Machine", TMa, 8), ("StepCourt$Payments", TPa, 4), ("StepCourt$Proof", TPr, 4), ("StepCourt", TSc, 13), ("StepCourtModel", TMo, 35)]
def wz : List Cond := lw_tbl.filter goodWord
theorem wz_in : ∀ w ∈ wz, w ∈ lw_tbl := fun w h => (List.mem_filter.mp h).1
theorem wz_s {w : Cond} (i : Nat) (h : (k2_sels lw_privs)[i]? = some w) (g : goodWord w = true) : w ∈ wz := List.mem_filter.mpr ⟨List.mem_append_left _ (List.mem_of_getElem? h), g⟩
theorem wz_t {w : Cond} (i : Nat) (h : tables_1[i]? = some w) (g : goodWord w = true) : w ∈ wz := List.mem_filter.mpr ⟨List.mem_append_right _ (List.mem_of_getElem? h), g⟩
theorem wz_c {w : Cond} {l : List Cond} (hl : ∀ w ∈ l, w ∈ tables_1) (j : Nat) (h : l[j]? = some w) (g : goodWord w = true) : w ∈ wz := List.mem_filter.mpr ⟨List.mem_append_right _ (hl w (List.mem_of_getElem? h)), g⟩
def tq_0 : List Cond := [Cond.initialized "StepCourtLaw", Cond.initialized "StepCourt", Cond.initialized "StepCourt$Code", Cond.initialized "StepCourt$Inbox", Cond.initialized "StepCourt$Machine", Cond.initialized "StepCourt$Payments", Cond.initialized "StepCourt$Proof", Cond.initialized "StepCourt$Assertion", Cond.initialized "StepCourt$Game", Cond.initialized "StepCourt$Mixer", Cond.initialized "StepCourtModel", Cond.initialized "java/lang/Throwable", Cond.initialized "java/lang/Exception", Cond.initialized "java/lang/RuntimeException", Cond.initialized "java/lang/IndexOutOfBoundsException", Cond.initialized "java/lang/IllegalArgumentException", Cond.initialized "java/lang/UnsupportedOperationException", Cond.initialized "java/lang/IllegalStateException", Cond.initialized "java/lang/System", Cond.classLink "StepCourtLaw" 8 "StepCourt", Cond.instantiable "StepCourt" 13, Cond.methodLink "StepCourtLaw" 47 ⟨"StepCourt", "<init>", "()V"⟩, Cond.instanceMethod ⟨"StepCourt", "<init>", "()V"⟩, Cond.code ⟨"StepCourt", "<init>", "()V"⟩ prog_1_method_1_code 2 none]
set_option maxRecDepth 16384 in
theorem tq_0_in : ∀ w ∈ tq_0, w ∈ tables_1 := fun w h => List.mem_append_left _ (List.mem_of_mem_drop (List.mem_of_mem_take (show w ∈ (tables_1_1.drop 0).take 24 from h)))
def tq_1 : List Cond := [Cond.methodLink "StepCourt" 1 ⟨"java/lang/Object", "<init>", "()V"⟩, Cond.instanceMethod ⟨"java/lang/Object", "<init>", "()V"⟩, Cond.code ⟨"java/lang/Object", "<init>", "()V"⟩ object_method_1_code 1 none, Cond.classLink "StepCourt" 13 "StepCourt$Code", Cond.instantiable "StepCourt$Code" 2, Cond.methodLinkNest "StepCourt" 15 ⟨"StepCourt$Code", "<init>", "()V"⟩ "StepCourt", Cond.instanceMethod ⟨"StepCourt$Code", "<init>", "()V"⟩, Cond.code ⟨"StepCourt$Code", "<init>", "()V"⟩ prog_3_method_1_code 1 none, Cond.methodLink "StepCourt$Code" 3 ⟨"java/lang/Object", "<init>", "()V"⟩, Cond.fieldLink "StepCourt$Code" 9 "StepCourt$Code" "ops" "[I", Cond.fieldLinkNest "StepCourt" 77 "StepCourt$Code" "ops" "[I" "StepCourt", Cond.fieldLinkNest "StepCourt$Machine" 52 "StepCourt$Code" "ops" "[I" "StepCourt", Cond.fieldLink "StepCourt$Code" 15 "StepCourt$Code" "arguments" "[I", Cond.fieldLinkNest "StepCourt" 80 "StepCourt$Code" "arguments" "[I" "StepCourt", Cond.fieldLinkNest "StepCourt$Machine" 47 "StepCourt$Code" "arguments" "[I" "StepCourt", Cond.laysFinal "StepCourt$Code" "StepCourt$Code" "ops" "[I", Cond.soleField "StepCourt$Code" "ops", Cond.laysFinal "StepCourt$Code" "StepCourt$Code" "arguments" "[I", Cond.soleField "StepCourt$Code" "arguments", Cond.superclass "StepCourt$Code" "java/lang/Object", Cond.arrayClass .int, Cond.classLink "StepCourt" 20 "StepCourt$Inbox", Cond.instantiable "StepCourt$Inbox" 2, Cond.methodLinkNest "StepCourt" 22 ⟨"StepCourt$Inbox", "<init>", "()V"⟩ "StepCourt"]
set_option maxRecDepth 16384 in
theorem tq_1_in : ∀ w ∈ tq_1, w ∈ tables_1 := fun w h => List.mem_append_left _ (List.mem_of_mem_drop (List.mem_of_mem_take (show w ∈ (tables_1_1.drop 24).take 24 from h)))
def tq_2 : List Cond := [Cond.instanceMethod ⟨"StepCourt$Inbox", "<init>", "()V"⟩, Cond.code ⟨"StepCourt$Inbox", "<init>", "()V"⟩ prog_5_method_1_code 1 none, Cond.methodLink "StepCourt$Inbox" 3 ⟨"java/lang/Object", "<init>", "()V"⟩, Cond.fieldLink "StepCourt$Inbox" 9 "StepCourt$Inbox" "words" "[I", Cond.fieldLink "StepCourt$Inbox" 15 "StepCourt$Inbox" "size" "I", Cond.fieldLinkNest "StepCourt" 110 "StepCourt$Inbox" "size" "I" "StepCourt", Cond.laysFinal "StepCourt$Inbox" "StepCourt$Inbox" "words" "[I", Cond.soleField "StepCourt$Inbox" "words", Cond.lays "StepCourt$Inbox" "StepCourt$Inbox" "size" "I", Cond.soleField "StepCourt$Inbox" "size", Cond.superclass "StepCourt$Inbox" "java/lang/Object", Cond.classLink "StepCourt" 27 "StepCourt$Machine", Cond.instantiable "StepCourt$Machine" 8, Cond.methodLinkNest "StepCourt" 29 ⟨"StepCourt$Machine", "<init>", "()V"⟩ "StepCourt", Cond.instanceMethod ⟨"StepCourt$Machine", "<init>", "()V"⟩, Cond.code ⟨"StepCourt$Machine", "<init>", "()V"⟩ prog_6_method_1_code 1 none, Cond.methodLink "StepCourt$Machine" 3 ⟨"java/lang/Object", "<init>", "()V"⟩, Cond.fieldLink "StepCourt$Machine" 9 "StepCourt$Machine" "cells" "[I", Cond.fieldLinkNest "StepCourt$Proof" 30 "StepCourt$Machine" "cells" "[I" "StepCourt", Cond.fieldLink "StepCourt$Machine" 15 "StepCourt$Machine" "tree" "[J", Cond.fieldLinkNest "StepCourt$Proof" 41 "StepCourt$Machine" "tree" "[J" "StepCourt", Cond.fieldLink "StepCourt$Machine" 25 "StepCourt$Machine" "pc" "I", Cond.fieldLinkNest "StepCourt$Proof" 44 "StepCourt$Machine" "pc" "I" "StepCourt", Cond.fieldLinkNest "StepCourt" 258 "StepCourt$Machine" "pc" "I" "StepCourt"]
set_option maxRecDepth 16384 in
theorem tq_2_in : ∀ w ∈ tq_2, w ∈ tables_1 := fun w h => List.mem_append_left _ (List.mem_of_mem_drop (List.mem_of_mem_take (show w ∈ (tables_1_1.drop 48).take 24 from h)))
def tq_3 : List Cond := [Cond.fieldLink "StepCourt$Machine" 29 "StepCourt$Machine" "a" "I", Cond.fieldLinkNest "StepCourt$Proof" 47 "StepCourt$Machine" "a" "I" "StepCourt", Cond.fieldLinkNest "StepCourt" 261 "StepCourt$Machine" "a" "I" "StepCourt", Cond.fieldLink "StepCourt$Machine" 32 "StepCourt$Machine" "b" "I", Cond.fieldLinkNest "StepCourt$Proof" 50 "StepCourt$Machine" "b" "I" "StepCourt", Cond.fieldLinkNest "StepCourt" 264 "StepCourt$Machine" "b" "I" "StepCourt", Cond.fieldLink "StepCourt$Machine" 35 "StepCourt$Machine" "read" "I", Cond.fieldLinkNest "StepCourt$Proof" 53 "StepCourt$Machine" "read" "I" "StepCourt", Cond.fieldLinkNest "StepCourt" 267 "StepCourt$Machine" "read" "I" "StepCourt", Cond.fieldLink "StepCourt$Machine" 38 "StepCourt$Machine" "paid" "I", Cond.fieldLinkNest "StepCourt$Proof" 56 "StepCourt$Machine" "paid" "I" "StepCourt", Cond.fieldLinkNest "StepCourt" 270 "StepCourt$Machine" "paid" "I" "StepCourt", Cond.fieldLink "StepCourt$Machine" 41 "StepCourt$Machine" "trail" "J", Cond.fieldLinkNest "StepCourt$Proof" 59 "StepCourt$Machine" "trail" "J" "StepCourt", Cond.fieldLinkNest "StepCourt" 273 "StepCourt$Machine" "trail" "J" "StepCourt", Cond.laysFinal "StepCourt$Machine" "StepCourt$Machine" "cells" "[I", Cond.soleField "StepCourt$Machine" "cells", Cond.laysFinal "StepCourt$Machine" "StepCourt$Machine" "tree" "[J", Cond.soleField "StepCourt$Machine" "tree", Cond.lays "StepCourt$Machine" "StepCourt$Machine" "pc" "I", Cond.soleField "StepCourt$Machine" "pc", Cond.lays "StepCourt$Machine" "StepCourt$Machine" "a" "I", Cond.soleField "StepCourt$Machine" "a", Cond.lays "StepCourt$Machine" "StepCourt$Machine" "b" "I"]
set_option maxRecDepth 16384 in
theorem tq_3_in : ∀ w ∈ tq_3, w ∈ tables_1 := fun w h => List.mem_append_left _ (List.mem_of_mem_drop (List.mem_of_mem_take (show w ∈ (tables_1_1.drop 72).take 24 from h)))
def tq_4 : List Cond := [Cond.soleField "StepCourt$Machine" "b", Cond.lays "StepCourt$Machine" "StepCourt$Machine" "read" "I", Cond.soleField "StepCourt$Machine" "read", Cond.lays "StepCourt$Machine" "StepCourt$Machine" "paid" "I", Cond.soleField "StepCourt$Machine" "paid", Cond.lays "StepCourt$Machine" "StepCourt$Machine" "trail" "J", Cond.soleField "StepCourt$Machine" "trail", Cond.superclass "StepCourt$Machine" "java/lang/Object", Cond.arrayClass .long, Cond.classLink "StepCourt" 37 "StepCourt$Payments", Cond.instantiable "StepCourt$Payments" 4, Cond.methodLinkNest "StepCourt" 39 ⟨"StepCourt$Payments", "<init>", "()V"⟩ "StepCourt", Cond.instanceMethod ⟨"StepCourt$Payments", "<init>", "()V"⟩, Cond.code ⟨"StepCourt$Payments", "<init>", "()V"⟩ prog_8_method_1_code 1 none, Cond.methodLink "StepCourt$Payments" 3 ⟨"java/lang/Object", "<init>", "()V"⟩, Cond.fieldLink "StepCourt$Payments" 9 "StepCourt$Payments" "receivers" "[I", Cond.fieldLinkNest "StepCourt" 245 "StepCourt$Payments" "receivers" "[I" "StepCourt", Cond.fieldLink "StepCourt$Payments" 15 "StepCourt$Payments" "amounts" "[I", Cond.fieldLinkNest "StepCourt" 238 "StepCourt$Payments" "amounts" "[I" "StepCourt", Cond.fieldLink "StepCourt$Payments" 18 "StepCourt$Payments" "drawn" "[Z", Cond.fieldLinkNest "StepCourt" 232 "StepCourt$Payments" "drawn" "[Z" "StepCourt", Cond.fieldLink "StepCourt$Payments" 22 "StepCourt$Payments" "count" "I", Cond.fieldLinkNest "StepCourt" 224 "StepCourt$Payments" "count" "I" "StepCourt", Cond.laysFinal "StepCourt$Payments" "StepCourt$Payments" "receivers" "[I"]
set_option maxRecDepth 16384 in
theorem tq_4_in : ∀ w ∈ tq_4, w ∈ tables_1 := fun w h => List.mem_append_left _ (List.mem_of_mem_drop (List.mem_of_mem_take (show w ∈ (tables_1_1.drop 96).take 24 from h)))
def tq_5 : List Cond := [Cond.soleField "StepCourt$Payments" "receivers", Cond.laysFinal "StepCourt$Payments" "StepCourt$Payments" "amounts" "[I", Cond.soleField "StepCourt$Payments" "amounts", Cond.laysFinal "StepCourt$Payments" "StepCourt$Payments" "drawn" "[Z", Cond.soleField "StepCourt$Payments" "drawn", Cond.lays "StepCourt$Payments" "StepCourt$Payments" "count" "I", Cond.soleField "StepCourt$Payments" "count", Cond.superclass "StepCourt$Payments" "java/lang/Object", Cond.arrayClass .boolean, Cond.classLink "StepCourt" 44 "StepCourt$Proof", Cond.instantiable "StepCourt$Proof" 4, Cond.methodLinkNest "StepCourt" 46 ⟨"StepCourt$Proof", "<init>", "()V"⟩ "StepCourt", Cond.instanceMethod ⟨"StepCourt$Proof", "<init>", "()V"⟩, Cond.code ⟨"StepCourt$Proof", "<init>", "()V"⟩ prog_9_method_1_code 1 none, Cond.methodLink "StepCourt$Proof" 3 ⟨"java/lang/Object", "<init>", "()V"⟩, Cond.classLink "StepCourt$Proof" 9 "StepCourt$Machine", Cond.methodLinkNest "StepCourt$Proof" 11 ⟨"StepCourt$Machine", "<init>", "()V"⟩ "StepCourt", Cond.fieldLink "StepCourt$Proof" 12 "StepCourt$Proof" "given" "LStepCourt$Machine;", Cond.fieldLinkNest "StepCourt" 325 "StepCourt$Proof" "given" "LStepCourt$Machine;" "StepCourt", Cond.fieldLink "StepCourt$Proof" 18 "StepCourt$Proof" "others" "[J", Cond.fieldLink "StepCourt$Proof" 34 "StepCourt$Proof" "cell" "I", Cond.fieldLink "StepCourt$Proof" 67 "StepCourt$Proof" "place" "I", Cond.laysFinal "StepCourt$Proof" "StepCourt$Proof" "given" "LStepCourt$Machine;", Cond.soleField "StepCourt$Proof" "given"]
set_option maxRecDepth 16384 in
theorem tq_5_in : ∀ w ∈ tq_5, w ∈ tables_1 := fun w h => List.mem_append_left _ (List.mem_of_mem_drop (List.mem_of_mem_take (show w ∈ (tables_1_1.drop 120).take 24 from h)))
def tq_6 : List Cond := [Cond.laysFinal "StepCourt$Proof" "StepCourt$Proof" "others" "[J", Cond.soleField "StepCourt$Proof" "others", Cond.lays "StepCourt$Proof" "StepCourt$Proof" "cell" "I", Cond.soleField "StepCourt$Proof" "cell", Cond.lays "StepCourt$Proof" "StepCourt$Proof" "place" "I", Cond.soleField "StepCourt$Proof" "place", Cond.superclass "StepCourt$Proof" "java/lang/Object", Cond.classLink "StepCourt" 51 "StepCourt$Assertion", Cond.instantiable "StepCourt$Assertion" 7, Cond.methodLinkNest "StepCourt" 53 ⟨"StepCourt$Assertion", "<init>", "()V"⟩ "StepCourt", Cond.instanceMethod ⟨"StepCourt$Assertion", "<init>", "()V"⟩, Cond.code ⟨"StepCourt$Assertion", "<init>", "()V"⟩ prog_2_method_1_code 1 none, Cond.methodLink "StepCourt$Assertion" 1 ⟨"java/lang/Object", "<init>", "()V"⟩, Cond.fieldLink "StepCourt$Assertion" 7 "StepCourt$Assertion" "isOpen" "Z", Cond.fieldLinkNest "StepCourt" 115 "StepCourt$Assertion" "isOpen" "Z" "StepCourt", Cond.fieldLink "StepCourt$Assertion" 13 "StepCourt$Assertion" "everMade" "Z", Cond.fieldLinkNest "StepCourt" 73 "StepCourt$Assertion" "everMade" "Z" "StepCourt", Cond.fieldLink "StepCourt$Assertion" 16 "StepCourt$Assertion" "asserter" "I", Cond.fieldLinkNest "StepCourt" 142 "StepCourt$Assertion" "asserter" "I" "StepCourt", Cond.fieldLink "StepCourt$Assertion" 20 "StepCourt$Assertion" "steps" "I", Cond.fieldLinkNest "StepCourt" 154 "StepCourt$Assertion" "steps" "I" "StepCourt", Cond.fieldLink "StepCourt$Assertion" 23 "StepCourt$Assertion" "limit" "I", Cond.fieldLinkNest "StepCourt" 190 "StepCourt$Assertion" "limit" "I" "StepCourt", Cond.fieldLink "StepCourt$Assertion" 26 "StepCourt$Assertion" "madeAt" "I"]
set_option maxRecDepth 16384 in
theorem tq_6_in : ∀ w ∈ tq_6, w ∈ tables_1 := fun w h => List.mem_append_left _ (List.mem_of_mem_drop (List.mem_of_mem_take (show w ∈ (tables_1_1.drop 144).take 24 from h)))
def tq_7 : List Cond := [Cond.fieldLinkNest "StepCourt" 284 "StepCourt$Assertion" "madeAt" "I" "StepCourt", Cond.fieldLinkNest "StepCourt" 139 "StepCourt$Assertion" "claim" "J" "StepCourt", Cond.lays "StepCourt$Assertion" "StepCourt$Assertion" "isOpen" "Z", Cond.soleField "StepCourt$Assertion" "isOpen", Cond.lays "StepCourt$Assertion" "StepCourt$Assertion" "everMade" "Z", Cond.soleField "StepCourt$Assertion" "everMade", Cond.lays "StepCourt$Assertion" "StepCourt$Assertion" "asserter" "I", Cond.soleField "StepCourt$Assertion" "asserter", Cond.lays "StepCourt$Assertion" "StepCourt$Assertion" "steps" "I", Cond.soleField "StepCourt$Assertion" "steps", Cond.lays "StepCourt$Assertion" "StepCourt$Assertion" "limit" "I", Cond.soleField "StepCourt$Assertion" "limit", Cond.lays "StepCourt$Assertion" "StepCourt$Assertion" "madeAt" "I", Cond.soleField "StepCourt$Assertion" "madeAt", Cond.lays "StepCourt$Assertion" "StepCourt$Assertion" "claim" "J", Cond.soleField "StepCourt$Assertion" "claim", Cond.superclass "StepCourt$Assertion" "java/lang/Object", Cond.classLink "StepCourt" 58 "StepCourt$Game", Cond.arrayOver (.object "StepCourt$Game"), Cond.instantiable "StepCourt$Game" 9, Cond.methodLinkNest "StepCourt" 64 ⟨"StepCourt$Game", "<init>", "()V"⟩ "StepCourt", Cond.instanceMethod ⟨"StepCourt$Game", "<init>", "()V"⟩, Cond.code ⟨"StepCourt$Game", "<init>", "()V"⟩ prog_4_method_1_code 1 none, Cond.methodLink "StepCourt$Game" 3 ⟨"java/lang/Object", "<init>", "()V"⟩]
set_option maxRecDepth 16384 in
theorem tq_7_in : ∀ w ∈ tq_7, w ∈ tables_1 := fun w h => List.mem_append_left _ (List.mem_of_mem_drop (List.mem_of_mem_take (show w ∈ (tables_1_1.drop 168).take 24 from h)))
def tq_8 : List Cond := [Cond.fieldLink "StepCourt$Game" 9 "StepCourt$Game" "challenger" "I", Cond.fieldLinkNest "StepCourt" 293 "StepCourt$Game" "challenger" "I" "StepCourt", Cond.fieldLink "StepCourt$Game" 15 "StepCourt$Game" "low" "I", Cond.fieldLinkNest "StepCourt" 185 "StepCourt$Game" "low" "I" "StepCourt", Cond.fieldLink "StepCourt$Game" 18 "StepCourt$Game" "high" "I", Cond.fieldLinkNest "StepCourt" 182 "StepCourt$Game" "high" "I" "StepCourt", Cond.fieldLink "StepCourt$Game" 21 "StepCourt$Game" "agreed" "J", Cond.fieldLinkNest "StepCourt" 204 "StepCourt$Game" "agreed" "J" "StepCourt", Cond.fieldLink "StepCourt$Game" 25 "StepCourt$Game" "disputed" "J", Cond.fieldLinkNest "StepCourt" 207 "StepCourt$Game" "disputed" "J" "StepCourt", Cond.fieldLink "StepCourt$Game" 38 "StepCourt$Game" "middle" "J", Cond.fieldLinkNest "StepCourt" 175 "StepCourt$Game" "middle" "J" "StepCourt", Cond.fieldLink "StepCourt$Game" 41 "StepCourt$Game" "hasMiddle" "Z", Cond.fieldLink "StepCourt$Game" 35 "StepCourt$Game" "deadline" "I", Cond.fieldLinkNest "StepCourt" 296 "StepCourt$Game" "deadline" "I" "StepCourt", Cond.fieldLink "StepCourt$Game" 31 "StepCourt$Game" "isRunning" "Z", Cond.fieldLinkNest "StepCourt" 310 "StepCourt$Game" "isRunning" "Z" "StepCourt", Cond.lays "StepCourt$Game" "StepCourt$Game" "challenger" "I", Cond.soleField "StepCourt$Game" "challenger", Cond.lays "StepCourt$Game" "StepCourt$Game" "low" "I", Cond.soleField "StepCourt$Game" "low", Cond.lays "StepCourt$Game" "StepCourt$Game" "high" "I", Cond.soleField "StepCourt$Game" "high", Cond.lays "StepCourt$Game" "StepCourt$Game" "agreed" "J"]
set_option maxRecDepth 16384 in
theorem tq_8_in : ∀ w ∈ tq_8, w ∈ tables_1 := fun w h => List.mem_append_left _ (List.mem_of_mem_drop (List.mem_of_mem_take (show w ∈ (tables_1_1.drop 192).take 24 from h)))
def tq_9 : List Cond := [Cond.soleField "StepCourt$Game" "agreed", Cond.lays "StepCourt$Game" "StepCourt$Game" "disputed" "J", Cond.soleField "StepCourt$Game" "disputed", Cond.lays "StepCourt$Game" "StepCourt$Game" "middle" "J", Cond.soleField "StepCourt$Game" "middle", Cond.lays "StepCourt$Game" "StepCourt$Game" "hasMiddle" "Z", Cond.soleField "StepCourt$Game" "hasMiddle", Cond.lays "StepCourt$Game" "StepCourt$Game" "deadline" "I", Cond.soleField "StepCourt$Game" "deadline", Cond.lays "StepCourt$Game" "StepCourt$Game" "isRunning" "Z", Cond.soleField "StepCourt$Game" "isRunning", Cond.superclass "StepCourt$Game" "java/lang/Object", Cond.methodLink "StepCourt" 65 ⟨"StepCourt$Machine", "commitment", "()J"⟩, Cond.instanceMethod ⟨"StepCourt$Machine", "commitment", "()J"⟩, Cond.selects "StepCourt$Machine" ⟨"StepCourt$Machine", "commitment", "()J"⟩ ⟨"StepCourt$Machine", "commitment", "()J"⟩, Cond.code ⟨"StepCourt$Machine", "commitment", "()J"⟩ prog_6_method_11_code 1 (some .long), Cond.methodLink "StepCourt$Machine" 92 ⟨"StepCourt$Machine", "growTree", "()V"⟩, Cond.instanceMethod ⟨"StepCourt$Machine", "growTree", "()V"⟩, Cond.selects "StepCourt$Machine" ⟨"StepCourt$Machine", "growTree", "()V"⟩ ⟨"StepCourt$Machine", "growTree", "()V"⟩, Cond.code ⟨"StepCourt$Machine", "growTree", "()V"⟩ prog_6_method_10_code 2 none, Cond.methodLink "StepCourt$Machine" 85 ⟨"StepCourt$Mixer", "mixLeaf", "(I)J"⟩, Cond.static ⟨"StepCourt$Mixer", "mixLeaf", "(I)J"⟩, Cond.code ⟨"StepCourt$Mixer", "mixLeaf", "(I)J"⟩ prog_7_method_3_code 1 (some .long), Cond.methodLink "StepCourt$Mixer" 15 ⟨"StepCourt$Mixer", "mix", "(JJ)J"⟩]
set_option maxRecDepth 16384 in
theorem tq_9_in : ∀ w ∈ tq_9, w ∈ tables_1 := fun w h => List.mem_append_left _ (List.mem_of_mem_drop (List.mem_of_mem_take (show w ∈ (tables_1_1.drop 216).take 24 from h)))
def tq_10 : List Cond := [Cond.static ⟨"StepCourt$Mixer", "mix", "(JJ)J"⟩, Cond.code ⟨"StepCourt$Mixer", "mix", "(JJ)J"⟩ prog_7_method_2_code 6 (some .long), Cond.constantLong "StepCourt$Mixer" 9 (6364136223846793005), Cond.constantLong "StepCourt$Mixer" 11 (3935559000370003845), Cond.constantLong "StepCourt$Mixer" 13 (-7723592293110705685), Cond.methodLink "StepCourt$Machine" 89 ⟨"StepCourt$Mixer", "mixPair", "(JJ)J"⟩, Cond.static ⟨"StepCourt$Mixer", "mixPair", "(JJ)J"⟩, Cond.code ⟨"StepCourt$Mixer", "mixPair", "(JJ)J"⟩ prog_7_method_4_code 4 (some .long), Cond.constantLong "StepCourt$Mixer" 19 (2), Cond.methodLink "StepCourt$Machine" 95 ⟨"StepCourt$Machine", "commitmentWith", "(J)J"⟩, Cond.instanceMethod ⟨"StepCourt$Machine", "commitmentWith", "(J)J"⟩, Cond.selects "StepCourt$Machine" ⟨"StepCourt$Machine", "commitmentWith", "(J)J"⟩ ⟨"StepCourt$Machine", "commitmentWith", "(J)J"⟩, Cond.code ⟨"StepCourt$Machine", "commitmentWith", "(J)J"⟩ prog_6_method_12_code 5 (some .long), Cond.methodLink "StepCourt$Machine" 79 ⟨"StepCourt$Mixer", "mix", "(JJ)J"⟩, Cond.fieldLink "StepCourt" 9 "StepCourt" "balances" "[I", Cond.fieldLink "StepCourt" 16 "StepCourt" "code" "LStepCourt$Code;", Cond.fieldLink "StepCourt" 23 "StepCourt" "inbox" "LStepCourt$Inbox;", Cond.fieldLink "StepCourt" 30 "StepCourt" "trueState" "LStepCourt$Machine;", Cond.fieldLink "StepCourt" 34 "StepCourt" "scratch" "LStepCourt$Machine;", Cond.fieldLink "StepCourt" 40 "StepCourt" "payments" "LStepCourt$Payments;", Cond.fieldLink "StepCourt" 47 "StepCourt" "proof" "LStepCourt$Proof;", Cond.fieldLink "StepCourt" 54 "StepCourt" "assertion" "LStepCourt$Assertion;", Cond.fieldLink "StepCourt" 60 "StepCourt" "games" "[LStepCourt$Game;", Cond.fieldLink "StepCourt" 149 "StepCourt" "gameCount" "I"]
set_option maxRecDepth 16384 in
theorem tq_10_in : ∀ w ∈ tq_10, w ∈ tables_1 := fun w h => List.mem_append_right _ (List.mem_append_left _ (List.mem_of_mem_drop (List.mem_of_mem_take (show w ∈ (tables_1_2.drop 0).take 24 from h))))
def tq_11 : List Cond := [Cond.fieldLink "StepCourt" 103 "StepCourt" "pot" "I", Cond.fieldLink "StepCourt" 128 "StepCourt" "blockNumber" "I", Cond.fieldLink "StepCourt" 69 "StepCourt" "base" "J", Cond.laysFinal "StepCourt" "StepCourt" "balances" "[I", Cond.soleField "StepCourt" "balances", Cond.laysFinal "StepCourt" "StepCourt" "code" "LStepCourt$Code;", Cond.soleField "StepCourt" "code", Cond.laysFinal "StepCourt" "StepCourt" "inbox" "LStepCourt$Inbox;", Cond.soleField "StepCourt" "inbox", Cond.laysFinal "StepCourt" "StepCourt" "trueState" "LStepCourt$Machine;", Cond.soleField "StepCourt" "trueState", Cond.laysFinal "StepCourt" "StepCourt" "scratch" "LStepCourt$Machine;", Cond.soleField "StepCourt" "scratch", Cond.laysFinal "StepCourt" "StepCourt" "payments" "LStepCourt$Payments;", Cond.soleField "StepCourt" "payments", Cond.laysFinal "StepCourt" "StepCourt" "proof" "LStepCourt$Proof;", Cond.soleField "StepCourt" "proof", Cond.laysFinal "StepCourt" "StepCourt" "assertion" "LStepCourt$Assertion;", Cond.soleField "StepCourt" "assertion", Cond.laysFinal "StepCourt" "StepCourt" "games" "[LStepCourt$Game;", Cond.soleField "StepCourt" "games", Cond.lays "StepCourt" "StepCourt" "gameCount" "I", Cond.soleField "StepCourt" "gameCount", Cond.lays "StepCourt" "StepCourt" "pot" "I"]
set_option maxRecDepth 16384 in
theorem tq_11_in : ∀ w ∈ tq_11, w ∈ tables_1 := fun w h => List.mem_append_right _ (List.mem_append_left _ (List.mem_of_mem_drop (List.mem_of_mem_take (show w ∈ (tables_1_2.drop 24).take 24 from h))))
def tq_12 : List Cond := [Cond.soleField "StepCourt" "pot", Cond.lays "StepCourt" "StepCourt" "blockNumber" "I", Cond.soleField "StepCourt" "blockNumber", Cond.lays "StepCourt" "StepCourt" "base" "J", Cond.soleField "StepCourt" "base", Cond.superclass "StepCourt" "java/lang/Object", Cond.methodLink "StepCourtLaw" 51 ⟨"StepCourt", "code", "(III)Z"⟩, Cond.instanceMethod ⟨"StepCourt", "code", "(III)Z"⟩, Cond.selects "StepCourt" ⟨"StepCourt", "code", "(III)Z"⟩ ⟨"StepCourt", "code", "(III)Z"⟩, Cond.code ⟨"StepCourt", "code", "(III)Z"⟩ prog_1_method_2_code 4 (some .boolean), Cond.methodLink "StepCourtLaw" 86 ⟨"StepCourt", "block", "()I"⟩, Cond.instanceMethod ⟨"StepCourt", "block", "()I"⟩, Cond.selects "StepCourt" ⟨"StepCourt", "block", "()I"⟩ ⟨"StepCourt", "block", "()I"⟩, Cond.code ⟨"StepCourt", "block", "()I"⟩ prog_1_method_10_code 1 (some .int), Cond.methodLink "StepCourt" 221 ⟨"StepCourt", "endLateGames", "()V"⟩, Cond.privateMethod ⟨"StepCourt", "endLateGames", "()V"⟩, Cond.instanceMethod ⟨"StepCourt", "endLateGames", "()V"⟩, Cond.code ⟨"StepCourt", "endLateGames", "()V"⟩ prog_1_method_31_code 3 none, Cond.methodLink "StepCourt" 299 ⟨"StepCourt$Game", "duty", "()I"⟩, Cond.instanceMethod ⟨"StepCourt$Game", "duty", "()I"⟩, Cond.selects "StepCourt$Game" ⟨"StepCourt$Game", "duty", "()I"⟩ ⟨"StepCourt$Game", "duty", "()I"⟩, Cond.code ⟨"StepCourt$Game", "duty", "()I"⟩ prog_4_method_8_code 1 (some .int), Cond.methodLink "StepCourt" 328 ⟨"StepCourt", "challengerWins", "(LStepCourt$Game;)V"⟩, Cond.privateMethod ⟨"StepCourt", "challengerWins", "(LStepCourt$Game;)V"⟩]
set_option maxRecDepth 16384 in
theorem tq_12_in : ∀ w ∈ tq_12, w ∈ tables_1 := fun w h => List.mem_append_right _ (List.mem_append_left _ (List.mem_of_mem_drop (List.mem_of_mem_take (show w ∈ (tables_1_2.drop 48).take 24 from h))))
def tq_13 : List Cond := [Cond.instanceMethod ⟨"StepCourt", "challengerWins", "(LStepCourt$Game;)V"⟩, Cond.code ⟨"StepCourt", "challengerWins", "(LStepCourt$Game;)V"⟩ prog_1_method_33_code 3 none, Cond.methodLink "StepCourt" 248 ⟨"StepCourt", "pay", "(II)V"⟩, Cond.privateMethod ⟨"StepCourt", "pay", "(II)V"⟩, Cond.instanceMethod ⟨"StepCourt", "pay", "(II)V"⟩, Cond.code ⟨"StepCourt", "pay", "(II)V"⟩ prog_1_method_25_code 3 none, Cond.methodLink "StepCourt" 251 ⟨"StepCourt", "isParty", "(I)Z"⟩, Cond.static ⟨"StepCourt", "isParty", "(I)Z"⟩, Cond.code ⟨"StepCourt", "isParty", "(I)Z"⟩ prog_1_method_20_code 1 (some .boolean), Cond.methodLink "StepCourt" 331 ⟨"StepCourt", "closeAssertion", "()V"⟩, Cond.privateMethod ⟨"StepCourt", "closeAssertion", "()V"⟩, Cond.instanceMethod ⟨"StepCourt", "closeAssertion", "()V"⟩, Cond.code ⟨"StepCourt", "closeAssertion", "()V"⟩ prog_1_method_36_code 1 none, Cond.methodLink "StepCourt" 214 ⟨"StepCourt", "asserterWins", "(LStepCourt$Game;)V"⟩, Cond.privateMethod ⟨"StepCourt", "asserterWins", "(LStepCourt$Game;)V"⟩, Cond.instanceMethod ⟨"StepCourt", "asserterWins", "(LStepCourt$Game;)V"⟩, Cond.code ⟨"StepCourt", "asserterWins", "(LStepCourt$Game;)V"⟩ prog_1_method_32_code 2 none, Cond.methodLink "StepCourt" 218 ⟨"StepCourt", "standIfDue", "()V"⟩, Cond.privateMethod ⟨"StepCourt", "standIfDue", "()V"⟩, Cond.instanceMethod ⟨"StepCourt", "standIfDue", "()V"⟩, Cond.code ⟨"StepCourt", "standIfDue", "()V"⟩ prog_1_method_34_code 1 none, Cond.methodLink "StepCourt" 287 ⟨"StepCourt", "countRunning", "()I"⟩, Cond.privateMethod ⟨"StepCourt", "countRunning", "()I"⟩, Cond.instanceMethod ⟨"StepCourt", "countRunning", "()I"⟩]
set_option maxRecDepth 16384 in
theorem tq_13_in : ∀ w ∈ tq_13, w ∈ tables_1 := fun w h => List.mem_append_right _ (List.mem_append_left _ (List.mem_of_mem_drop (List.mem_of_mem_take (show w ∈ (tables_1_2.drop 72).take 24 from h))))
def tq_14 : List Cond := [Cond.code ⟨"StepCourt", "countRunning", "()I"⟩ prog_1_method_27_code 3 (some .int), Cond.methodLink "StepCourt" 334 ⟨"StepCourt", "moveTrueState", "()V"⟩, Cond.privateMethod ⟨"StepCourt", "moveTrueState", "()V"⟩, Cond.instanceMethod ⟨"StepCourt", "moveTrueState", "()V"⟩, Cond.code ⟨"StepCourt", "moveTrueState", "()V"⟩ prog_1_method_35_code 3 none, Cond.methodLink "StepCourt" 316 ⟨"StepCourt$Machine", "step", "(LStepCourt$Code;LStepCourt$Inbox;I)V"⟩, Cond.instanceMethod ⟨"StepCourt$Machine", "step", "(LStepCourt$Code;LStepCourt$Inbox;I)V"⟩, Cond.selects "StepCourt$Machine" ⟨"StepCourt$Machine", "step", "(LStepCourt$Code;LStepCourt$Inbox;I)V"⟩ ⟨"StepCourt$Machine", "step", "(LStepCourt$Code;LStepCourt$Inbox;I)V"⟩, Cond.code ⟨"StepCourt$Machine", "step", "(LStepCourt$Code;LStepCourt$Inbox;I)V"⟩ prog_6_method_6_code 8 none, Cond.methodLink "StepCourt$Machine" 55 ⟨"StepCourt$Machine", "exchange", "()V"⟩, Cond.privateMethod ⟨"StepCourt$Machine", "exchange", "()V"⟩, Cond.instanceMethod ⟨"StepCourt$Machine", "exchange", "()V"⟩, Cond.code ⟨"StepCourt$Machine", "exchange", "()V"⟩ prog_6_method_7_code 2 none, Cond.methodLink "StepCourt$Machine" 58 ⟨"StepCourt$Machine", "cellPlace", "()I"⟩, Cond.instanceMethod ⟨"StepCourt$Machine", "cellPlace", "()I"⟩, Cond.selects "StepCourt$Machine" ⟨"StepCourt$Machine", "cellPlace", "()I"⟩ ⟨"StepCourt$Machine", "cellPlace", "()I"⟩, Cond.code ⟨"StepCourt$Machine", "cellPlace", "()I"⟩ prog_6_method_3_code 1 (some .int), Cond.methodLink "StepCourt$Machine" 62 ⟨"StepCourt$Machine", "takeWord", "(LStepCourt$Inbox;I)Z"⟩, Cond.privateMethod ⟨"StepCourt$Machine", "takeWord", "(LStepCourt$Inbox;I)Z"⟩, Cond.instanceMethod ⟨"StepCourt$Machine", "takeWord", "(LStepCourt$Inbox;I)Z"⟩, Cond.code ⟨"StepCourt$Machine", "takeWord", "(LStepCourt$Inbox;I)Z"⟩ prog_6_method_8_code 3 (some .boolean), Cond.methodLink "StepCourt$Machine" 70 ⟨"StepCourt$Inbox", "at", "(I)I"⟩, Cond.instanceMethod ⟨"StepCourt$Inbox", "at", "(I)I"⟩, Cond.selects "StepCourt$Inbox" ⟨"StepCourt$Inbox", "at", "(I)I"⟩ ⟨"StepCourt$Inbox", "at", "(I)I"⟩]
set_option maxRecDepth 16384 in
theorem tq_14_in : ∀ w ∈ tq_14, w ∈ tables_1 := fun w h => List.mem_append_right _ (List.mem_append_left _ (List.mem_of_mem_drop (List.mem_of_mem_take (show w ∈ (tables_1_2.drop 96).take 24 from h))))
def tq_15 : List Cond := [Cond.code ⟨"StepCourt$Inbox", "at", "(I)I"⟩ prog_5_method_4_code 2 (some .int), Cond.methodLink "StepCourt$Machine" 66 ⟨"StepCourt$Machine", "makePayment", "()Z"⟩, Cond.privateMethod ⟨"StepCourt$Machine", "makePayment", "()Z"⟩, Cond.instanceMethod ⟨"StepCourt$Machine", "makePayment", "()Z"⟩, Cond.code ⟨"StepCourt$Machine", "makePayment", "()Z"⟩ prog_6_method_9_code 1 (some .boolean), Cond.methodLink "StepCourt$Machine" 76 ⟨"StepCourt$Machine", "receiver", "()I"⟩, Cond.instanceMethod ⟨"StepCourt$Machine", "receiver", "()I"⟩, Cond.selects "StepCourt$Machine" ⟨"StepCourt$Machine", "receiver", "()I"⟩ ⟨"StepCourt$Machine", "receiver", "()I"⟩, Cond.code ⟨"StepCourt$Machine", "receiver", "()I"⟩ prog_6_method_4_code 1 (some .int), Cond.methodLink "StepCourt" 337 ⟨"StepCourt$Machine", "receiver", "()I"⟩, Cond.methodLink "StepCourt" 340 ⟨"StepCourt$Payments", "add", "(II)V"⟩, Cond.instanceMethod ⟨"StepCourt$Payments", "add", "(II)V"⟩, Cond.selects "StepCourt$Payments" ⟨"StepCourt$Payments", "add", "(II)V"⟩ ⟨"StepCourt$Payments", "add", "(II)V"⟩, Cond.code ⟨"StepCourt$Payments", "add", "(II)V"⟩ prog_8_method_2_code 3 none, Cond.methodLink "StepCourtLaw" 94 ⟨"StepCourt", "balance", "(I)I"⟩, Cond.instanceMethod ⟨"StepCourt", "balance", "(I)I"⟩, Cond.selects "StepCourt" ⟨"StepCourt", "balance", "(I)I"⟩ ⟨"StepCourt", "balance", "(I)I"⟩, Cond.code ⟨"StepCourt", "balance", "(I)I"⟩ prog_1_method_12_code 2 (some .int), Cond.methodLink "StepCourtLaw" 98 ⟨"StepCourt", "pot", "()I"⟩, Cond.instanceMethod ⟨"StepCourt", "pot", "()I"⟩, Cond.selects "StepCourt" ⟨"StepCourt", "pot", "()I"⟩ ⟨"StepCourt", "pot", "()I"⟩, Cond.code ⟨"StepCourt", "pot", "()I"⟩ prog_1_method_13_code 1 (some .int), Cond.methodLink "StepCourtLaw" 102 ⟨"StepCourt", "word", "(I)I"⟩, Cond.instanceMethod ⟨"StepCourt", "word", "(I)I"⟩]
set_option maxRecDepth 16384 in
theorem tq_15_in : ∀ w ∈ tq_15, w ∈ tables_1 := fun w h => List.mem_append_right _ (List.mem_append_left _ (List.mem_of_mem_drop (List.mem_of_mem_take (show w ∈ (tables_1_2.drop 120).take 24 from h))))
def tq_16 : List Cond := [Cond.selects "StepCourt" ⟨"StepCourt", "word", "(I)I"⟩ ⟨"StepCourt", "word", "(I)I"⟩, Cond.code ⟨"StepCourt", "word", "(I)I"⟩ prog_1_method_14_code 2 (some .int), Cond.methodLink "StepCourt" 254 ⟨"StepCourt$Inbox", "at", "(I)I"⟩, Cond.methodLink "StepCourtLaw" 106 ⟨"StepCourt", "truth", "(I)J"⟩, Cond.instanceMethod ⟨"StepCourt", "truth", "(I)J"⟩, Cond.selects "StepCourt" ⟨"StepCourt", "truth", "(I)J"⟩ ⟨"StepCourt", "truth", "(I)J"⟩, Cond.code ⟨"StepCourt", "truth", "(I)J"⟩ prog_1_method_15_code 2 (some .long), Cond.methodLink "StepCourt" 135 ⟨"StepCourt", "trueCommitment", "(I)J"⟩, Cond.privateMethod ⟨"StepCourt", "trueCommitment", "(I)J"⟩, Cond.instanceMethod ⟨"StepCourt", "trueCommitment", "(I)J"⟩, Cond.code ⟨"StepCourt", "trueCommitment", "(I)J"⟩ prog_1_method_28_code 2 (some .long), Cond.methodLink "StepCourt" 193 ⟨"StepCourt", "runScratch", "(II)V"⟩, Cond.privateMethod ⟨"StepCourt", "runScratch", "(II)V"⟩, Cond.instanceMethod ⟨"StepCourt", "runScratch", "(II)V"⟩, Cond.code ⟨"StepCourt", "runScratch", "(II)V"⟩ prog_1_method_29_code 4 none, Cond.methodLink "StepCourt" 313 ⟨"StepCourt$Machine", "copyFrom", "(LStepCourt$Machine;)V"⟩, Cond.instanceMethod ⟨"StepCourt$Machine", "copyFrom", "(LStepCourt$Machine;)V"⟩, Cond.selects "StepCourt$Machine" ⟨"StepCourt$Machine", "copyFrom", "(LStepCourt$Machine;)V"⟩ ⟨"StepCourt$Machine", "copyFrom", "(LStepCourt$Machine;)V"⟩, Cond.code ⟨"StepCourt$Machine", "copyFrom", "(LStepCourt$Machine;)V"⟩ prog_6_method_2_code 2 none, Cond.methodLink "StepCourt$Machine" 19 ⟨"java/lang/System", "arraycopy", "(Ljava/lang/Object;ILjava/lang/Object;II)V"⟩, Cond.static ⟨"java/lang/System", "arraycopy", "(Ljava/lang/Object;ILjava/lang/Object;II)V"⟩, Cond.native ⟨"java/lang/System", "arraycopy", "(Ljava/lang/Object;ILjava/lang/Object;II)V"⟩, Cond.methodLink "StepCourtLaw" 111 ⟨"StepCourt", "base", "()J"⟩, Cond.instanceMethod ⟨"StepCourt", "base", "()J"⟩]
set_option maxRecDepth 16384 in
theorem tq_16_in : ∀ w ∈ tq_16, w ∈ tables_1 := fun w h => List.mem_append_right _ (List.mem_append_left _ (List.mem_of_mem_drop (List.mem_of_mem_take (show w ∈ (tables_1_2.drop 144).take 24 from h))))
def tq_17 : List Cond := [Cond.selects "StepCourt" ⟨"StepCourt", "base", "()J"⟩ ⟨"StepCourt", "base", "()J"⟩, Cond.code ⟨"StepCourt", "base", "()J"⟩ prog_1_method_16_code 1 (some .long), Cond.methodLink "StepCourtLaw" 116 ⟨"StepCourt", "state", "(I)J"⟩, Cond.instanceMethod ⟨"StepCourt", "state", "(I)J"⟩, Cond.selects "StepCourt" ⟨"StepCourt", "state", "(I)J"⟩ ⟨"StepCourt", "state", "(I)J"⟩, Cond.code ⟨"StepCourt", "state", "(I)J"⟩ prog_1_method_17_code 2 (some .long), Cond.constantLong "StepCourt" 276 (6), Cond.methodLink "StepCourt" 278 ⟨"StepCourt$Machine", "cellOrZero", "(J)J"⟩, Cond.instanceMethod ⟨"StepCourt$Machine", "cellOrZero", "(J)J"⟩, Cond.selects "StepCourt$Machine" ⟨"StepCourt$Machine", "cellOrZero", "(J)J"⟩ ⟨"StepCourt$Machine", "cellOrZero", "(J)J"⟩, Cond.code ⟨"StepCourt$Machine", "cellOrZero", "(J)J"⟩ prog_6_method_5_code 3 (some .long), Cond.constantLong "StepCourt$Machine" 45 (8), Cond.methodLink "StepCourtLaw" 120 ⟨"StepCourt", "assertion", "(I)J"⟩, Cond.instanceMethod ⟨"StepCourt", "assertion", "(I)J"⟩, Cond.selects "StepCourt" ⟨"StepCourt", "assertion", "(I)J"⟩ ⟨"StepCourt", "assertion", "(I)J"⟩, Cond.code ⟨"StepCourt", "assertion", "(I)J"⟩ prog_1_method_18_code 2 (some .long), Cond.constantLong "StepCourt" 282 (-1), Cond.methodLink "StepCourtLaw" 124 ⟨"StepCourt", "game", "(II)J"⟩, Cond.instanceMethod ⟨"StepCourt", "game", "(II)J"⟩, Cond.selects "StepCourt" ⟨"StepCourt", "game", "(II)J"⟩ ⟨"StepCourt", "game", "(II)J"⟩, Cond.code ⟨"StepCourt", "game", "(II)J"⟩ prog_1_method_19_code 4 (some .long), Cond.methodLink "StepCourt" 290 ⟨"StepCourt", "isGame", "(I)Z"⟩, Cond.privateMethod ⟨"StepCourt", "isGame", "(I)Z"⟩, Cond.instanceMethod ⟨"StepCourt", "isGame", "(I)Z"⟩]
set_option maxRecDepth 16384 in
theorem tq_17_in : ∀ w ∈ tq_17, w ∈ tables_1 := fun w h => List.mem_append_right _ (List.mem_append_left _ (List.mem_of_mem_drop (List.mem_of_mem_take (show w ∈ (tables_1_2.drop 168).take 24 from h))))
def tq_18 : List Cond := [Cond.code ⟨"StepCourt", "isGame", "(I)Z"⟩ prog_1_method_22_code 2 (some .boolean), Cond.methodLink "StepCourtLaw" 55 ⟨"StepCourtLaw", "deposit", "(LStepCourt;II[J)I"⟩, Cond.static ⟨"StepCourtLaw", "deposit", "(LStepCourt;II[J)I"⟩, Cond.codeWith ⟨"StepCourtLaw", "deposit", "(LStepCourt;II[J)I"⟩ method_3_code 5 (some .int) [(0, 10, 13, 13), (0, 10, 17, 15), (0, 10, 21, 17)], Cond.classLink "StepCourtLaw" 13 "java/lang/IndexOutOfBoundsException", Cond.classLink "StepCourtLaw" 15 "java/lang/IllegalArgumentException", Cond.classLink "StepCourtLaw" 17 "java/lang/UnsupportedOperationException", Cond.methodLink "StepCourtLaw" 7 ⟨"StepCourt", "deposit", "(II)I"⟩, Cond.instanceMethod ⟨"StepCourt", "deposit", "(II)I"⟩, Cond.selects "StepCourt" ⟨"StepCourt", "deposit", "(II)I"⟩ ⟨"StepCourt", "deposit", "(II)I"⟩, Cond.code ⟨"StepCourt", "deposit", "(II)I"⟩ prog_1_method_3_code 3 (some .int), Cond.methodLink "StepCourt" 83 ⟨"StepCourt", "requireParty", "(I)V"⟩, Cond.static ⟨"StepCourt", "requireParty", "(I)V"⟩, Cond.code ⟨"StepCourt", "requireParty", "(I)V"⟩ prog_1_method_21_code 1 none, Cond.classLink "StepCourt" 227 "java/lang/IndexOutOfBoundsException", Cond.instantiable "java/lang/IndexOutOfBoundsException" 6, Cond.castable "java/lang/IndexOutOfBoundsException" "java/lang/IndexOutOfBoundsException", Cond.declares ⟨"java/lang/RuntimeException", "<init>", "()V"⟩, Cond.declares ⟨"java/lang/RuntimeException", "<init>", "(Ljava/lang/String;)V"⟩, Cond.declares ⟨"java/lang/Exception", "<init>", "()V"⟩, Cond.declares ⟨"java/lang/Exception", "<init>", "(Ljava/lang/String;)V"⟩, Cond.declares ⟨"java/lang/Throwable", "<init>", "()V"⟩, Cond.declares ⟨"java/lang/Throwable", "<init>", "(Ljava/lang/String;)V"⟩, Cond.selects "java/lang/IndexOutOfBoundsException" ⟨"java/lang/Throwable", "fillInStackTrace", "(I)Ljava/lang/Throwable;"⟩ ⟨"java/lang/Throwable", "fillInStackTrace", "(I)Ljava/lang/Throwable;"⟩]
set_option maxRecDepth 16384 in
theorem tq_18_in : ∀ w ∈ tq_18, w ∈ tables_1 := fun w h => List.mem_append_right _ (List.mem_append_left _ (List.mem_of_mem_drop (List.mem_of_mem_take (show w ∈ (tables_1_2.drop 192).take 24 from h))))
def tq_19 : List Cond := [Cond.selects "java/lang/IndexOutOfBoundsException" ⟨"java/lang/Throwable", "fillInStackTrace", "()Ljava/lang/Throwable;"⟩ ⟨"java/lang/Throwable", "fillInStackTrace", "()Ljava/lang/Throwable;"⟩, Cond.lays "java/lang/IndexOutOfBoundsException" "java/lang/Throwable" "cause" "Ljava/lang/Throwable;", Cond.lays "java/lang/Throwable" "java/lang/Throwable" "cause" "Ljava/lang/Throwable;", Cond.lays "java/lang/IndexOutOfBoundsException" "java/lang/Throwable" "stackTrace" "[Ljava/lang/StackTraceElement;", Cond.lays "java/lang/Throwable" "java/lang/Throwable" "stackTrace" "[Ljava/lang/StackTraceElement;", Cond.lays "java/lang/IndexOutOfBoundsException" "java/lang/Throwable" "suppressedExceptions" "Ljava/util/List;", Cond.lays "java/lang/Throwable" "java/lang/Throwable" "suppressedExceptions" "Ljava/util/List;", Cond.lays "java/lang/IndexOutOfBoundsException" "java/lang/Throwable" "detailMessage" "Ljava/lang/String;", Cond.lays "java/lang/Throwable" "java/lang/Throwable" "detailMessage" "Ljava/lang/String;", Cond.lays "java/lang/IndexOutOfBoundsException" "java/lang/Throwable" "backtrace" "Ljava/lang/Object;", Cond.lays "java/lang/Throwable" "java/lang/Throwable" "backtrace" "Ljava/lang/Object;", Cond.fieldLink "java/lang/Throwable" 198 "java/lang/Throwable" "backtrace" "Ljava/lang/Object;", Cond.superclass "java/lang/Throwable" "java/lang/Object", Cond.instanceMethod ⟨"java/lang/Throwable", "<init>", "()V"⟩, Cond.code ⟨"java/lang/Throwable", "<init>", "()V"⟩ prog_19_method_1_code 1 none, Cond.methodLink "java/lang/Throwable" 1 ⟨"java/lang/Object", "<init>", "()V"⟩, Cond.fieldLink "java/lang/Throwable" 13 "java/lang/Throwable" "UNASSIGNED_STACK" "[Ljava/lang/StackTraceElement;", Cond.laysStatic "java/lang/Throwable" "UNASSIGNED_STACK" "[Ljava/lang/StackTraceElement;", Cond.fieldLink "java/lang/Throwable" 20 "java/lang/Throwable" "SUPPRESSED_SENTINEL" "Ljava/util/List;", Cond.laysStatic "java/lang/Throwable" "SUPPRESSED_SENTINEL" "Ljava/util/List;", Cond.methodLink "java/lang/Throwable" 27 ⟨"java/lang/Throwable", "fillInStackTrace", "()Ljava/lang/Throwable;"⟩, Cond.instanceMethod ⟨"java/lang/Throwable", "fillInStackTrace", "()Ljava/lang/Throwable;"⟩, Cond.sameMethod "java/lang/Throwable" "java/lang/Throwable" "fillInStackTrace" "()Ljava/lang/Throwable;", Cond.selects "java/lang/IllegalArgumentException" ⟨"java/lang/Throwable", "fillInStackTrace", "()Ljava/lang/Throwable;"⟩ ⟨"java/lang/Throwable", "fillInStackTrace", "()Ljava/lang/Throwable;"⟩]
set_option maxRecDepth 16384 in
theorem tq_19_in : ∀ w ∈ tq_19, w ∈ tables_1 := fun w h => List.mem_append_right _ (List.mem_append_left _ (List.mem_of_mem_drop (List.mem_of_mem_take (show w ∈ (tables_1_2.drop 216).take 24 from h))))
def tq_20 : List Cond := [Cond.selects "java/lang/IllegalStateException" ⟨"java/lang/Throwable", "fillInStackTrace", "()Ljava/lang/Throwable;"⟩ ⟨"java/lang/Throwable", "fillInStackTrace", "()Ljava/lang/Throwable;"⟩, Cond.selects "java/lang/UnsupportedOperationException" ⟨"java/lang/Throwable", "fillInStackTrace", "()Ljava/lang/Throwable;"⟩ ⟨"java/lang/Throwable", "fillInStackTrace", "()Ljava/lang/Throwable;"⟩, Cond.codeSync ⟨"java/lang/Throwable", "fillInStackTrace", "()Ljava/lang/Throwable;"⟩ prog_19_method_18_code 1 (some (.object "java/lang/Throwable")), Cond.methodLink "java/lang/Throwable" 202 ⟨"java/lang/Throwable", "fillInStackTrace", "(I)Ljava/lang/Throwable;"⟩, Cond.privateMethod ⟨"java/lang/Throwable", "fillInStackTrace", "(I)Ljava/lang/Throwable;"⟩, Cond.instanceMethod ⟨"java/lang/Throwable", "fillInStackTrace", "(I)Ljava/lang/Throwable;"⟩, Cond.instantiable "java/lang/Throwable" 6, Cond.native ⟨"java/lang/Throwable", "fillInStackTrace", "(I)Ljava/lang/Throwable;"⟩, Cond.stringRef "StepCourt" 302 "there is no such party", Cond.methodLink "StepCourt" 231 ⟨"java/lang/IndexOutOfBoundsException", "<init>", "(Ljava/lang/String;)V"⟩, Cond.instanceMethod ⟨"java/lang/IndexOutOfBoundsException", "<init>", "(Ljava/lang/String;)V"⟩, Cond.code ⟨"java/lang/IndexOutOfBoundsException", "<init>", "(Ljava/lang/String;)V"⟩ prog_15_method_2_code 2 none, Cond.methodLink "java/lang/IndexOutOfBoundsException" 7 ⟨"java/lang/RuntimeException", "<init>", "(Ljava/lang/String;)V"⟩, Cond.instanceMethod ⟨"java/lang/RuntimeException", "<init>", "(Ljava/lang/String;)V"⟩, Cond.code ⟨"java/lang/RuntimeException", "<init>", "(Ljava/lang/String;)V"⟩ prog_16_method_2_code 2 none, Cond.methodLink "java/lang/RuntimeException" 7 ⟨"java/lang/Exception", "<init>", "(Ljava/lang/String;)V"⟩, Cond.instanceMethod ⟨"java/lang/Exception", "<init>", "(Ljava/lang/String;)V"⟩, Cond.code ⟨"java/lang/Exception", "<init>", "(Ljava/lang/String;)V"⟩ prog_12_method_2_code 2 none, Cond.methodLink "java/lang/Exception" 7 ⟨"java/lang/Throwable", "<init>", "(Ljava/lang/String;)V"⟩, Cond.instanceMethod ⟨"java/lang/Throwable", "<init>", "(Ljava/lang/String;)V"⟩, Cond.code ⟨"java/lang/Throwable", "<init>", "(Ljava/lang/String;)V"⟩ prog_19_method_2_code 2 none, Cond.fieldLink "java/lang/Throwable" 198 "java/lang/Throwable" "backtrace" "Ljava/lang/Object;", Cond.fieldLink "java/lang/Throwable" 31 "java/lang/Throwable" "detailMessage" "Ljava/lang/String;", Cond.fieldLink "java/lang/Throwable" 7 "java/lang/Throwable" "cause" "Ljava/lang/Throwable;"]
set_option maxRecDepth 16384 in
theorem tq_20_in : ∀ w ∈ tq_20, w ∈ tables_1 := fun w h => List.mem_append_right _ (List.mem_append_right _ (List.mem_append_left _ (List.mem_of_mem_drop (List.mem_of_mem_take (show w ∈ (tables_1_3.drop 0).take 24 from h)))))
def tq_21 : List Cond := [Cond.fieldLink "java/lang/Throwable" 17 "java/lang/Throwable" "stackTrace" "[Ljava/lang/StackTraceElement;", Cond.fieldLink "java/lang/Throwable" 24 "java/lang/Throwable" "suppressedExceptions" "Ljava/util/List;", Cond.soleField "java/lang/Throwable" "backtrace", Cond.soleField "java/lang/Throwable" "detailMessage", Cond.soleField "java/lang/Throwable" "cause", Cond.soleField "java/lang/Throwable" "stackTrace", Cond.lays "java/lang/IndexOutOfBoundsException" "java/lang/Throwable" "depth" "I", Cond.soleField "java/lang/Throwable" "depth", Cond.soleField "java/lang/Throwable" "suppressedExceptions", Cond.superclass "java/lang/IndexOutOfBoundsException" "java/lang/RuntimeException", Cond.arrayClass .byte, Cond.classLink "StepCourt" 87 "java/lang/IllegalArgumentException", Cond.instantiable "java/lang/IllegalArgumentException" 6, Cond.castable "java/lang/IllegalArgumentException" "java/lang/IllegalArgumentException", Cond.selects "java/lang/IllegalArgumentException" ⟨"java/lang/Throwable", "fillInStackTrace", "(I)Ljava/lang/Throwable;"⟩ ⟨"java/lang/Throwable", "fillInStackTrace", "(I)Ljava/lang/Throwable;"⟩, Cond.lays "java/lang/IllegalArgumentException" "java/lang/Throwable" "cause" "Ljava/lang/Throwable;", Cond.lays "java/lang/IllegalArgumentException" "java/lang/Throwable" "stackTrace" "[Ljava/lang/StackTraceElement;", Cond.lays "java/lang/IllegalArgumentException" "java/lang/Throwable" "suppressedExceptions" "Ljava/util/List;", Cond.lays "java/lang/IllegalArgumentException" "java/lang/Throwable" "detailMessage" "Ljava/lang/String;", Cond.lays "java/lang/IllegalArgumentException" "java/lang/Throwable" "backtrace" "Ljava/lang/Object;", Cond.stringRef "StepCourt" 89 "the amount is below 1", Cond.methodLink "StepCourt" 91 ⟨"java/lang/IllegalArgumentException", "<init>", "(Ljava/lang/String;)V"⟩, Cond.instanceMethod ⟨"java/lang/IllegalArgumentException", "<init>", "(Ljava/lang/String;)V"⟩, Cond.code ⟨"java/lang/IllegalArgumentException", "<init>", "(Ljava/lang/String;)V"⟩ prog_13_method_2_code 2 none]
set_option maxRecDepth 16384 in
theorem tq_21_in : ∀ w ∈ tq_21, w ∈ tables_1 := fun w h => List.mem_append_right _ (List.mem_append_right _ (List.mem_append_left _ (List.mem_of_mem_drop (List.mem_of_mem_take (show w ∈ (tables_1_3.drop 24).take 24 from h)))))
def tq_22 : List Cond := [Cond.methodLink "java/lang/IllegalArgumentException" 7 ⟨"java/lang/RuntimeException", "<init>", "(Ljava/lang/String;)V"⟩, Cond.lays "java/lang/IllegalArgumentException" "java/lang/Throwable" "depth" "I", Cond.superclass "java/lang/IllegalArgumentException" "java/lang/RuntimeException", Cond.methodLink "StepCourt" 94 ⟨"StepCourt$Inbox", "room", "()I"⟩, Cond.instanceMethod ⟨"StepCourt$Inbox", "room", "()I"⟩, Cond.selects "StepCourt$Inbox" ⟨"StepCourt$Inbox", "room", "()I"⟩ ⟨"StepCourt$Inbox", "room", "()I"⟩, Cond.code ⟨"StepCourt$Inbox", "room", "()I"⟩ prog_5_method_2_code 1 (some .int), Cond.classLink "StepCourt" 98 "java/lang/UnsupportedOperationException", Cond.instantiable "java/lang/UnsupportedOperationException" 6, Cond.castable "java/lang/UnsupportedOperationException" "java/lang/UnsupportedOperationException", Cond.selects "java/lang/UnsupportedOperationException" ⟨"java/lang/Throwable", "fillInStackTrace", "(I)Ljava/lang/Throwable;"⟩ ⟨"java/lang/Throwable", "fillInStackTrace", "(I)Ljava/lang/Throwable;"⟩, Cond.lays "java/lang/UnsupportedOperationException" "java/lang/Throwable" "cause" "Ljava/lang/Throwable;", Cond.lays "java/lang/UnsupportedOperationException" "java/lang/Throwable" "stackTrace" "[Ljava/lang/StackTraceElement;", Cond.lays "java/lang/UnsupportedOperationException" "java/lang/Throwable" "suppressedExceptions" "Ljava/util/List;", Cond.lays "java/lang/UnsupportedOperationException" "java/lang/Throwable" "detailMessage" "Ljava/lang/String;", Cond.lays "java/lang/UnsupportedOperationException" "java/lang/Throwable" "backtrace" "Ljava/lang/Object;", Cond.stringRef "StepCourt" 100 "not enough money or room", Cond.methodLink "StepCourt" 102 ⟨"java/lang/UnsupportedOperationException", "<init>", "(Ljava/lang/String;)V"⟩, Cond.instanceMethod ⟨"java/lang/UnsupportedOperationException", "<init>", "(Ljava/lang/String;)V"⟩, Cond.code ⟨"java/lang/UnsupportedOperationException", "<init>", "(Ljava/lang/String;)V"⟩ prog_20_method_2_code 2 none, Cond.methodLink "java/lang/UnsupportedOperationException" 7 ⟨"java/lang/RuntimeException", "<init>", "(Ljava/lang/String;)V"⟩, Cond.lays "java/lang/UnsupportedOperationException" "java/lang/Throwable" "depth" "I", Cond.superclass "java/lang/UnsupportedOperationException" "java/lang/RuntimeException", Cond.methodLink "StepCourt" 107 ⟨"StepCourt$Inbox", "add", "(I)V"⟩]
set_option maxRecDepth 16384 in
theorem tq_22_in : ∀ w ∈ tq_22, w ∈ tables_1 := fun w h => List.mem_append_right _ (List.mem_append_right _ (List.mem_append_left _ (List.mem_of_mem_drop (List.mem_of_mem_take (show w ∈ (tables_1_3.drop 48).take 24 from h)))))
def tq_23 : List Cond := [Cond.instanceMethod ⟨"StepCourt$Inbox", "add", "(I)V"⟩, Cond.selects "StepCourt$Inbox" ⟨"StepCourt$Inbox", "add", "(I)V"⟩ ⟨"StepCourt$Inbox", "add", "(I)V"⟩, Cond.code ⟨"StepCourt$Inbox", "add", "(I)V"⟩ prog_5_method_3_code 2 none, Cond.methodLink "StepCourtLaw" 61 ⟨"StepCourtLaw", "send", "(LStepCourt;I[J)I"⟩, Cond.static ⟨"StepCourtLaw", "send", "(LStepCourt;I[J)I"⟩, Cond.codeWith ⟨"StepCourtLaw", "send", "(LStepCourt;I[J)I"⟩ method_4_code 4 (some .int) [(0, 9, 12, 17)], Cond.methodLink "StepCourtLaw" 19 ⟨"StepCourt", "send", "(I)I"⟩, Cond.instanceMethod ⟨"StepCourt", "send", "(I)I"⟩, Cond.selects "StepCourt" ⟨"StepCourt", "send", "(I)I"⟩ ⟨"StepCourt", "send", "(I)I"⟩, Cond.code ⟨"StepCourt", "send", "(I)I"⟩ prog_1_method_4_code 2 (some .int), Cond.stringRef "StepCourt" 113 "the inbox is full", Cond.methodLink "StepCourtLaw" 67 ⟨"StepCourtLaw", "claim", "(LStepCourt;IIJ[J)I"⟩, Cond.static ⟨"StepCourtLaw", "claim", "(LStepCourt;IIJ[J)I"⟩, Cond.codeWith ⟨"StepCourtLaw", "claim", "(LStepCourt;IIJ[J)I"⟩ method_5_code 7 (some .int) [(0, 11, 14, 13), (0, 11, 18, 27), (0, 11, 22, 15), (0, 11, 26, 17)], Cond.classLink "StepCourtLaw" 27 "java/lang/IllegalStateException", Cond.methodLink "StepCourtLaw" 23 ⟨"StepCourt", "claim", "(IIJ)J"⟩, Cond.instanceMethod ⟨"StepCourt", "claim", "(IIJ)J"⟩, Cond.selects "StepCourt" ⟨"StepCourt", "claim", "(IIJ)J"⟩ ⟨"StepCourt", "claim", "(IIJ)J"⟩, Cond.code ⟨"StepCourt", "claim", "(IIJ)J"⟩ prog_1_method_5_code 5 (some .long), Cond.classLink "StepCourt" 118 "java/lang/IllegalStateException", Cond.instantiable "java/lang/IllegalStateException" 6, Cond.castable "java/lang/IllegalStateException" "java/lang/IllegalStateException", Cond.selects "java/lang/IllegalStateException" ⟨"java/lang/Throwable", "fillInStackTrace", "(I)Ljava/lang/Throwable;"⟩ ⟨"java/lang/Throwable", "fillInStackTrace", "(I)Ljava/lang/Throwable;"⟩, Cond.lays "java/lang/IllegalStateException" "java/lang/Throwable" "cause" "Ljava/lang/Throwable;"]
set_option maxRecDepth 16384 in
theorem tq_23_in : ∀ w ∈ tq_23, w ∈ tables_1 := fun w h => List.mem_append_right _ (List.mem_append_right _ (List.mem_append_left _ (List.mem_of_mem_drop (List.mem_of_mem_take (show w ∈ (tables_1_3.drop 72).take 24 from h)))))
def tq_24 : List Cond := [Cond.lays "java/lang/IllegalStateException" "java/lang/Throwable" "stackTrace" "[Ljava/lang/StackTraceElement;", Cond.lays "java/lang/IllegalStateException" "java/lang/Throwable" "suppressedExceptions" "Ljava/util/List;", Cond.lays "java/lang/IllegalStateException" "java/lang/Throwable" "detailMessage" "Ljava/lang/String;", Cond.lays "java/lang/IllegalStateException" "java/lang/Throwable" "backtrace" "Ljava/lang/Object;", Cond.stringRef "StepCourt" 120 "there is an assertion", Cond.methodLink "StepCourt" 122 ⟨"java/lang/IllegalStateException", "<init>", "(Ljava/lang/String;)V"⟩, Cond.instanceMethod ⟨"java/lang/IllegalStateException", "<init>", "(Ljava/lang/String;)V"⟩, Cond.code ⟨"java/lang/IllegalStateException", "<init>", "(Ljava/lang/String;)V"⟩ prog_14_method_2_code 2 none, Cond.methodLink "java/lang/IllegalStateException" 7 ⟨"java/lang/RuntimeException", "<init>", "(Ljava/lang/String;)V"⟩, Cond.lays "java/lang/IllegalStateException" "java/lang/Throwable" "depth" "I", Cond.superclass "java/lang/IllegalStateException" "java/lang/RuntimeException", Cond.stringRef "StepCourt" 123 "the steps are not 1 to 64", Cond.methodLink "StepCourt" 125 ⟨"StepCourt", "takeStake", "(I)V"⟩, Cond.privateMethod ⟨"StepCourt", "takeStake", "(I)V"⟩, Cond.instanceMethod ⟨"StepCourt", "takeStake", "(I)V"⟩, Cond.code ⟨"StepCourt", "takeStake", "(I)V"⟩ prog_1_method_24_code 2 none, Cond.stringRef "StepCourt" 308 "the balance is below the stake", Cond.methodLink "StepCourt" 131 ⟨"StepCourt$Assertion", "open", "(IIII)V"⟩, Cond.instanceMethod ⟨"StepCourt$Assertion", "open", "(IIII)V"⟩, Cond.selects "StepCourt$Assertion" ⟨"StepCourt$Assertion", "open", "(IIII)V"⟩ ⟨"StepCourt$Assertion", "open", "(IIII)V"⟩, Cond.code ⟨"StepCourt$Assertion", "open", "(IIII)V"⟩ prog_2_method_2_code 5 none, Cond.methodLink "StepCourtLaw" 71 ⟨"StepCourtLaw", "challenge", "(LStepCourt;I[J)I"⟩, Cond.static ⟨"StepCourtLaw", "challenge", "(LStepCourt;I[J)I"⟩, Cond.codeWith ⟨"StepCourtLaw", "challenge", "(LStepCourt;I[J)I"⟩ method_6_code 4 (some .int) [(0, 9, 12, 13), (0, 9, 15, 27), (0, 9, 18, 17)]]
set_option maxRecDepth 16384 in
theorem tq_24_in : ∀ w ∈ tq_24, w ∈ tables_1 := fun w h => List.mem_append_right _ (List.mem_append_right _ (List.mem_append_left _ (List.mem_of_mem_drop (List.mem_of_mem_take (show w ∈ (tables_1_3.drop 96).take 24 from h)))))
def tq_25 : List Cond := [Cond.methodLink "StepCourtLaw" 29 ⟨"StepCourt", "challenge", "(I)I"⟩, Cond.instanceMethod ⟨"StepCourt", "challenge", "(I)I"⟩, Cond.selects "StepCourt" ⟨"StepCourt", "challenge", "(I)I"⟩ ⟨"StepCourt", "challenge", "(I)I"⟩, Cond.code ⟨"StepCourt", "challenge", "(I)I"⟩ prog_1_method_6_code 3 (some .int), Cond.methodLink "StepCourt" 145 ⟨"StepCourt", "hasChallenged", "(I)Z"⟩, Cond.privateMethod ⟨"StepCourt", "hasChallenged", "(I)Z"⟩, Cond.instanceMethod ⟨"StepCourt", "hasChallenged", "(I)Z"⟩, Cond.code ⟨"StepCourt", "hasChallenged", "(I)Z"⟩ prog_1_method_26_code 3 (some .boolean), Cond.stringRef "StepCourt" 152 "this party can't begin a game now", Cond.methodLink "StepCourt" 157 ⟨"StepCourt$Game", "begin", "(IIJJ)V"⟩, Cond.instanceMethod ⟨"StepCourt$Game", "begin", "(IIJJ)V"⟩, Cond.selects "StepCourt$Game" ⟨"StepCourt$Game", "begin", "(IIJJ)V"⟩ ⟨"StepCourt$Game", "begin", "(IIJJ)V"⟩, Cond.code ⟨"StepCourt$Game", "begin", "(IIJJ)V"⟩ prog_4_method_2_code 7 none, Cond.methodLink "StepCourt$Game" 28 ⟨"StepCourt$Game", "clearMiddle", "()V"⟩, Cond.privateMethod ⟨"StepCourt$Game", "clearMiddle", "()V"⟩, Cond.instanceMethod ⟨"StepCourt$Game", "clearMiddle", "()V"⟩, Cond.code ⟨"StepCourt$Game", "clearMiddle", "()V"⟩ prog_4_method_6_code 1 none, Cond.methodLink "StepCourt" 161 ⟨"StepCourt$Game", "setDeadline", "(I)V"⟩, Cond.instanceMethod ⟨"StepCourt$Game", "setDeadline", "(I)V"⟩, Cond.selects "StepCourt$Game" ⟨"StepCourt$Game", "setDeadline", "(I)V"⟩ ⟨"StepCourt$Game", "setDeadline", "(I)V"⟩, Cond.code ⟨"StepCourt$Game", "setDeadline", "(I)V"⟩ prog_4_method_3_code 2 none, Cond.methodLink "StepCourtLaw" 74 ⟨"StepCourtLaw", "post", "(LStepCourt;IJ[J)I"⟩, Cond.static ⟨"StepCourtLaw", "post", "(LStepCourt;IJ[J)I"⟩, Cond.codeWith ⟨"StepCourtLaw", "post", "(LStepCourt;IJ[J)I"⟩ method_7_code 6 (some .int) [(0, 10, 13, 13), (0, 10, 17, 27)]]
set_option maxRecDepth 16384 in
theorem tq_25_in : ∀ w ∈ tq_25, w ∈ tables_1 := fun w h => List.mem_append_right _ (List.mem_append_right _ (List.mem_append_left _ (List.mem_of_mem_drop (List.mem_of_mem_take (show w ∈ (tables_1_3.drop 120).take 24 from h)))))
def tq_26 : List Cond := [Cond.methodLink "StepCourtLaw" 32 ⟨"StepCourt", "post", "(IJ)J"⟩, Cond.instanceMethod ⟨"StepCourt", "post", "(IJ)J"⟩, Cond.selects "StepCourt" ⟨"StepCourt", "post", "(IJ)J"⟩ ⟨"StepCourt", "post", "(IJ)J"⟩, Cond.code ⟨"StepCourt", "post", "(IJ)J"⟩ prog_1_method_7_code 5 (some .long), Cond.methodLink "StepCourt" 164 ⟨"StepCourt", "gameWithDuty", "(II)LStepCourt$Game;"⟩, Cond.privateMethod ⟨"StepCourt", "gameWithDuty", "(II)LStepCourt$Game;"⟩, Cond.instanceMethod ⟨"StepCourt", "gameWithDuty", "(II)LStepCourt$Game;"⟩, Cond.code ⟨"StepCourt", "gameWithDuty", "(II)LStepCourt$Game;"⟩ prog_1_method_23_code 4 (some (.object "StepCourt$Game")), Cond.stringRef "StepCourt" 304 "there is no such game", Cond.stringRef "StepCourt" 306 "that is not to be done in this game now", Cond.methodLink "StepCourt" 168 ⟨"StepCourt$Game", "middleStep", "()I"⟩, Cond.instanceMethod ⟨"StepCourt$Game", "middleStep", "()I"⟩, Cond.selects "StepCourt$Game" ⟨"StepCourt$Game", "middleStep", "()I"⟩ ⟨"StepCourt$Game", "middleStep", "()I"⟩, Cond.code ⟨"StepCourt$Game", "middleStep", "()I"⟩ prog_4_method_4_code 1 (some .int), Cond.methodLink "StepCourt" 171 ⟨"StepCourt$Game", "setMiddle", "(J)V"⟩, Cond.instanceMethod ⟨"StepCourt$Game", "setMiddle", "(J)V"⟩, Cond.selects "StepCourt$Game" ⟨"StepCourt$Game", "setMiddle", "(J)V"⟩ ⟨"StepCourt$Game", "setMiddle", "(J)V"⟩, Cond.code ⟨"StepCourt$Game", "setMiddle", "(J)V"⟩ prog_4_method_5_code 3 none, Cond.methodLink "StepCourtLaw" 78 ⟨"StepCourtLaw", "pick", "(LStepCourt;IZ[J)I"⟩, Cond.static ⟨"StepCourtLaw", "pick", "(LStepCourt;IZ[J)I"⟩, Cond.codeWith ⟨"StepCourtLaw", "pick", "(LStepCourt;IZ[J)I"⟩ method_8_code 5 (some .int) [(0, 10, 13, 13), (0, 10, 17, 27)], Cond.methodLink "StepCourtLaw" 36 ⟨"StepCourt", "pick", "(IZ)I"⟩, Cond.instanceMethod ⟨"StepCourt", "pick", "(IZ)I"⟩, Cond.selects "StepCourt" ⟨"StepCourt", "pick", "(IZ)I"⟩ ⟨"StepCourt", "pick", "(IZ)I"⟩]
set_option maxRecDepth 16384 in
theorem tq_26_in : ∀ w ∈ tq_26, w ∈ tables_1 := fun w h => List.mem_append_right _ (List.mem_append_right _ (List.mem_append_left _ (List.mem_of_mem_drop (List.mem_of_mem_take (show w ∈ (tables_1_3.drop 144).take 24 from h)))))
def tq_27 : List Cond := [Cond.code ⟨"StepCourt", "pick", "(IZ)I"⟩ prog_1_method_8_code 4 (some .int), Cond.methodLink "StepCourt" 178 ⟨"StepCourt$Game", "halve", "(Z)V"⟩, Cond.instanceMethod ⟨"StepCourt$Game", "halve", "(Z)V"⟩, Cond.selects "StepCourt$Game" ⟨"StepCourt$Game", "halve", "(Z)V"⟩ ⟨"StepCourt$Game", "halve", "(Z)V"⟩, Cond.code ⟨"StepCourt$Game", "halve", "(Z)V"⟩ prog_4_method_7_code 2 none, Cond.methodLink "StepCourt$Game" 44 ⟨"StepCourt$Game", "middleStep", "()I"⟩, Cond.methodLink "StepCourtLaw" 82 ⟨"StepCourtLaw", "prove", "(LStepCourt;III[J)I"⟩, Cond.static ⟨"StepCourtLaw", "prove", "(LStepCourt;III[J)I"⟩, Cond.codeWith ⟨"StepCourtLaw", "prove", "(LStepCourt;III[J)I"⟩ method_9_code 6 (some .int) [(0, 19, 22, 13), (0, 19, 26, 27), (0, 19, 30, 15)], Cond.methodLink "StepCourtLaw" 40 ⟨"StepCourt", "prove", "(III)Z"⟩, Cond.instanceMethod ⟨"StepCourt", "prove", "(III)Z"⟩, Cond.selects "StepCourt" ⟨"StepCourt", "prove", "(III)Z"⟩ ⟨"StepCourt", "prove", "(III)Z"⟩, Cond.code ⟨"StepCourt", "prove", "(III)Z"⟩ prog_1_method_9_code 5 (some .boolean), Cond.stringRef "StepCourt" 188 "there is no such part of a proof", Cond.methodLink "StepCourt" 197 ⟨"StepCourt$Proof", "takeFrom", "(LStepCourt$Machine;)V"⟩, Cond.instanceMethod ⟨"StepCourt$Proof", "takeFrom", "(LStepCourt$Machine;)V"⟩, Cond.selects "StepCourt$Proof" ⟨"StepCourt$Proof", "takeFrom", "(LStepCourt$Machine;)V"⟩ ⟨"StepCourt$Proof", "takeFrom", "(LStepCourt$Machine;)V"⟩, Cond.code ⟨"StepCourt$Proof", "takeFrom", "(LStepCourt$Machine;)V"⟩ prog_9_method_2_code 4 none, Cond.methodLink "StepCourt$Proof" 22 ⟨"StepCourt$Machine", "copyFrom", "(LStepCourt$Machine;)V"⟩, Cond.methodLink "StepCourt$Proof" 26 ⟨"StepCourt$Machine", "cellPlace", "()I"⟩, Cond.methodLink "StepCourt$Proof" 38 ⟨"StepCourt$Machine", "growTree", "()V"⟩, Cond.methodLink "StepCourt" 201 ⟨"StepCourt$Proof", "alter", "(II)V"⟩, Cond.instanceMethod ⟨"StepCourt$Proof", "alter", "(II)V"⟩, Cond.selects "StepCourt$Proof" ⟨"StepCourt$Proof", "alter", "(II)V"⟩ ⟨"StepCourt$Proof", "alter", "(II)V"⟩]
set_option maxRecDepth 16384 in
theorem tq_27_in : ∀ w ∈ tq_27, w ∈ tables_1 := fun w h => List.mem_append_right _ (List.mem_append_right _ (List.mem_append_left _ (List.mem_of_mem_drop (List.mem_of_mem_take (show w ∈ (tables_1_3.drop 168).take 24 from h)))))
def tq_28 : List Cond := [Cond.code ⟨"StepCourt$Proof", "alter", "(II)V"⟩ prog_9_method_3_code 3 none, Cond.methodLink "StepCourt$Proof" 63 ⟨"StepCourt$Proof", "alterOther", "(II)V"⟩, Cond.privateMethod ⟨"StepCourt$Proof", "alterOther", "(II)V"⟩, Cond.instanceMethod ⟨"StepCourt$Proof", "alterOther", "(II)V"⟩, Cond.code ⟨"StepCourt$Proof", "alterOther", "(II)V"⟩ prog_9_method_4_code 3 none, Cond.methodLink "StepCourt" 210 ⟨"StepCourt", "proofLeads", "(JJ)Z"⟩, Cond.privateMethod ⟨"StepCourt", "proofLeads", "(JJ)Z"⟩, Cond.instanceMethod ⟨"StepCourt", "proofLeads", "(JJ)Z"⟩, Cond.code ⟨"StepCourt", "proofLeads", "(JJ)Z"⟩ prog_1_method_30_code 5 (some .boolean), Cond.methodLink "StepCourt" 320 ⟨"StepCourt$Proof", "commitment", "()J"⟩, Cond.instanceMethod ⟨"StepCourt$Proof", "commitment", "()J"⟩, Cond.selects "StepCourt$Proof" ⟨"StepCourt$Proof", "commitment", "()J"⟩ ⟨"StepCourt$Proof", "commitment", "()J"⟩, Cond.code ⟨"StepCourt$Proof", "commitment", "()J"⟩ prog_9_method_6_code 5 (some .long), Cond.methodLink "StepCourt$Proof" 70 ⟨"StepCourt$Mixer", "mixLeaf", "(I)J"⟩, Cond.methodLink "StepCourt$Proof" 76 ⟨"StepCourt$Mixer", "mixPair", "(JJ)J"⟩, Cond.methodLink "StepCourt$Proof" 80 ⟨"StepCourt$Machine", "commitmentWith", "(J)J"⟩, Cond.methodLink "StepCourt" 321 ⟨"StepCourt$Proof", "hasPlaceInCode", "()Z"⟩, Cond.instanceMethod ⟨"StepCourt$Proof", "hasPlaceInCode", "()Z"⟩, Cond.selects "StepCourt$Proof" ⟨"StepCourt$Proof", "hasPlaceInCode", "()Z"⟩ ⟨"StepCourt$Proof", "hasPlaceInCode", "()Z"⟩, Cond.code ⟨"StepCourt$Proof", "hasPlaceInCode", "()Z"⟩ prog_9_method_5_code 1 (some .boolean), Cond.methodLink "StepCourtLaw" 91 ⟨"StepCourtLaw", "draw", "(LStepCourt;I[J)I"⟩, Cond.static ⟨"StepCourtLaw", "draw", "(LStepCourt;I[J)I"⟩, Cond.codeWith ⟨"StepCourtLaw", "draw", "(LStepCourt;I[J)I"⟩ method_10_code 4 (some .int) [(0, 9, 12, 13), (0, 9, 15, 27), (0, 9, 18, 15), (0, 9, 21, 17)], Cond.methodLink "StepCourtLaw" 44 ⟨"StepCourt", "draw", "(I)I"⟩]
set_option maxRecDepth 16384 in
theorem tq_28_in : ∀ w ∈ tq_28, w ∈ tables_1 := fun w h => List.mem_append_right _ (List.mem_append_right _ (List.mem_append_left _ (List.mem_of_mem_drop (List.mem_of_mem_take (show w ∈ (tables_1_3.drop 192).take 24 from h)))))
def tq_29 : List Cond := [Cond.instanceMethod ⟨"StepCourt", "draw", "(I)I"⟩, Cond.selects "StepCourt" ⟨"StepCourt", "draw", "(I)I"⟩ ⟨"StepCourt", "draw", "(I)I"⟩, Cond.code ⟨"StepCourt", "draw", "(I)I"⟩ prog_1_method_11_code 3 (some .int), Cond.stringRef "StepCourt" 229 "there is no such payment", Cond.stringRef "StepCourt" 236 "the payment can't be drawn now", Cond.stringRef "StepCourt" 241 "the payment's amount is below 1", Cond.stringRef "StepCourt" 243 "the pot has less", Cond.classLink "StepCourtLaw" 48 "StepCourtModel", Cond.instantiable "StepCourtModel" 35, Cond.methodLink "StepCourtLaw" 50 ⟨"StepCourtModel", "<init>", "()V"⟩, Cond.instanceMethod ⟨"StepCourtModel", "<init>", "()V"⟩, Cond.code ⟨"StepCourtModel", "<init>", "()V"⟩ prog_11_method_1_code 1 none, Cond.methodLink "StepCourtModel" 1 ⟨"java/lang/Object", "<init>", "()V"⟩, Cond.methodLink "StepCourtModel" 72 ⟨"StepCourtModel", "take", "()V"⟩, Cond.privateMethod ⟨"StepCourtModel", "take", "()V"⟩, Cond.instanceMethod ⟨"StepCourtModel", "take", "()V"⟩, Cond.code ⟨"StepCourtModel", "take", "()V"⟩ prog_11_method_6_code 2 none, Cond.methodLink "StepCourtModel" 75 ⟨"StepCourtModel", "commitment", "()J"⟩, Cond.privateMethod ⟨"StepCourtModel", "commitment", "()J"⟩, Cond.instanceMethod ⟨"StepCourtModel", "commitment", "()J"⟩, Cond.code ⟨"StepCourtModel", "commitment", "()J"⟩ prog_11_method_9_code 1 (some .long), Cond.methodLink "StepCourtModel" 108 ⟨"StepCourtModel", "tree", "()V"⟩, Cond.privateMethod ⟨"StepCourtModel", "tree", "()V"⟩, Cond.instanceMethod ⟨"StepCourtModel", "tree", "()V"⟩]
set_option maxRecDepth 16384 in
theorem tq_29_in : ∀ w ∈ tq_29, w ∈ tables_1 := fun w h => List.mem_append_right _ (List.mem_append_right _ (List.mem_append_left _ (List.mem_of_mem_drop (List.mem_of_mem_take (show w ∈ (tables_1_3.drop 216).take 24 from h)))))
def tq_30 : List Cond := [Cond.code ⟨"StepCourtModel", "tree", "()V"⟩ prog_11_method_8_code 2 none, Cond.methodLink "StepCourtModel" 95 ⟨"StepCourtModel", "mix", "(JJ)J"⟩, Cond.static ⟨"StepCourtModel", "mix", "(JJ)J"⟩, Cond.code ⟨"StepCourtModel", "mix", "(JJ)J"⟩ prog_11_method_4_code 6 (some .long), Cond.constantLong "StepCourtModel" 87 (6364136223846793005), Cond.constantLong "StepCourtModel" 89 (3935559000370003845), Cond.constantLong "StepCourtModel" 91 (-7723592293110705685), Cond.methodLink "StepCourtModel" 105 ⟨"StepCourtModel", "pair", "(JJ)J"⟩, Cond.static ⟨"StepCourtModel", "pair", "(JJ)J"⟩, Cond.code ⟨"StepCourtModel", "pair", "(JJ)J"⟩ prog_11_method_5_code 4 (some .long), Cond.constantLong "StepCourtModel" 93 (2), Cond.methodLink "StepCourtModel" 111 ⟨"StepCourtModel", "whole", "(JJJJJJJ)J"⟩, Cond.static ⟨"StepCourtModel", "whole", "(JJJJJJJ)J"⟩, Cond.code ⟨"StepCourtModel", "whole", "(JJJJJJJ)J"⟩ prog_11_method_7_code 16 (some .long), Cond.fieldLink "StepCourtModel" 83 "StepCourtModel" "thrown" "I", Cond.fieldLink "StepCourtModel" 7 "StepCourtModel" "op" "[I", Cond.fieldLink "StepCourtModel" 13 "StepCourtModel" "argument" "[I", Cond.fieldLink "StepCourtModel" 137 "StepCourtModel" "sealed" "Z", Cond.fieldLink "StepCourtModel" 16 "StepCourtModel" "balance" "[I", Cond.fieldLink "StepCourtModel" 147 "StepCourtModel" "pot" "I", Cond.fieldLink "StepCourtModel" 115 "StepCourtModel" "words" "I", Cond.fieldLink "StepCourtModel" 19 "StepCourtModel" "inbox" "[I", Cond.fieldLink "StepCourtModel" 166 "StepCourtModel" "blocks" "I", Cond.fieldLink "StepCourtModel" 22 "StepCourtModel" "real" "[I"]
set_option maxRecDepth 16384 in
theorem tq_30_in : ∀ w ∈ tq_30, w ∈ tables_1 := fun w h => List.mem_append_right _ (List.mem_append_right _ (List.mem_append_right _ (List.mem_append_left _ (List.mem_of_mem_drop (List.mem_of_mem_take (show w ∈ (tables_1_4.drop 0).take 24 from h))))))
def tq_31 : List Cond := [Cond.fieldLink "StepCourtModel" 99 "StepCourtModel" "realTrail" "J", Cond.fieldLink "StepCourtModel" 25 "StepCourtModel" "hand" "[I", Cond.fieldLink "StepCourtModel" 102 "StepCourtModel" "handTrail" "J", Cond.fieldLink "StepCourtModel" 28 "StepCourtModel" "payee" "[I", Cond.fieldLink "StepCourtModel" 31 "StepCourtModel" "paid" "[I", Cond.fieldLink "StepCourtModel" 34 "StepCourtModel" "drawn" "[Z", Cond.fieldLink "StepCourtModel" 79 "StepCourtModel" "base" "J", Cond.fieldLink "StepCourtModel" 126 "StepCourtModel" "asserted" "Z", Cond.fieldLink "StepCourtModel" 160 "StepCourtModel" "asserter" "I", Cond.fieldLink "StepCourtModel" 163 "StepCourtModel" "span" "I", Cond.fieldLink "StepCourtModel" 130 "StepCourtModel" "limit" "I", Cond.fieldLink "StepCourtModel" 169 "StepCourtModel" "made" "I", Cond.fieldLink "StepCourtModel" 157 "StepCourtModel" "claim" "J", Cond.fieldLink "StepCourtModel" 172 "StepCourtModel" "games" "I", Cond.fieldLink "StepCourtModel" 38 "StepCourtModel" "challenger" "[I", Cond.fieldLink "StepCourtModel" 41 "StepCourtModel" "low" "[I", Cond.fieldLink "StepCourtModel" 44 "StepCourtModel" "high" "[I", Cond.fieldLink "StepCourtModel" 47 "StepCourtModel" "agreed" "[J", Cond.fieldLink "StepCourtModel" 51 "StepCourtModel" "disputed" "[J", Cond.fieldLink "StepCourtModel" 54 "StepCourtModel" "posted" "[Z", Cond.fieldLink "StepCourtModel" 57 "StepCourtModel" "middle" "[J", Cond.fieldLink "StepCourtModel" 60 "StepCourtModel" "deadline" "[I", Cond.fieldLink "StepCourtModel" 63 "StepCourtModel" "running" "[Z", Cond.fieldLink "StepCourtModel" 66 "StepCourtModel" "node" "[J"]
set_option maxRecDepth 16384 in
theorem tq_31_in : ∀ w ∈ tq_31, w ∈ tables_1 := fun w h => List.mem_append_right _ (List.mem_append_right _ (List.mem_append_right _ (List.mem_append_left _ (List.mem_of_mem_drop (List.mem_of_mem_take (show w ∈ (tables_1_4.drop 24).take 24 from h))))))
def tq_32 : List Cond := [Cond.fieldLink "StepCourtModel" 69 "StepCourtModel" "side" "[J", Cond.lays "StepCourtModel" "StepCourtModel" "thrown" "I", Cond.soleField "StepCourtModel" "thrown", Cond.laysFinal "StepCourtModel" "StepCourtModel" "op" "[I", Cond.soleField "StepCourtModel" "op", Cond.laysFinal "StepCourtModel" "StepCourtModel" "argument" "[I", Cond.soleField "StepCourtModel" "argument", Cond.lays "StepCourtModel" "StepCourtModel" "sealed" "Z", Cond.soleField "StepCourtModel" "sealed", Cond.laysFinal "StepCourtModel" "StepCourtModel" "balance" "[I", Cond.soleField "StepCourtModel" "balance", Cond.lays "StepCourtModel" "StepCourtModel" "pot" "I", Cond.soleField "StepCourtModel" "pot", Cond.lays "StepCourtModel" "StepCourtModel" "words" "I", Cond.soleField "StepCourtModel" "words", Cond.laysFinal "StepCourtModel" "StepCourtModel" "inbox" "[I", Cond.soleField "StepCourtModel" "inbox", Cond.lays "StepCourtModel" "StepCourtModel" "blocks" "I", Cond.soleField "StepCourtModel" "blocks", Cond.laysFinal "StepCourtModel" "StepCourtModel" "real" "[I", Cond.soleField "StepCourtModel" "real", Cond.lays "StepCourtModel" "StepCourtModel" "realTrail" "J", Cond.soleField "StepCourtModel" "realTrail", Cond.laysFinal "StepCourtModel" "StepCourtModel" "hand" "[I"]
set_option maxRecDepth 16384 in
theorem tq_32_in : ∀ w ∈ tq_32, w ∈ tables_1 := fun w h => List.mem_append_right _ (List.mem_append_right _ (List.mem_append_right _ (List.mem_append_left _ (List.mem_of_mem_drop (List.mem_of_mem_take (show w ∈ (tables_1_4.drop 48).take 24 from h))))))
def tq_33 : List Cond := [Cond.soleField "StepCourtModel" "hand", Cond.lays "StepCourtModel" "StepCourtModel" "handTrail" "J", Cond.soleField "StepCourtModel" "handTrail", Cond.laysFinal "StepCourtModel" "StepCourtModel" "payee" "[I", Cond.soleField "StepCourtModel" "payee", Cond.laysFinal "StepCourtModel" "StepCourtModel" "paid" "[I", Cond.soleField "StepCourtModel" "paid", Cond.laysFinal "StepCourtModel" "StepCourtModel" "drawn" "[Z", Cond.soleField "StepCourtModel" "drawn", Cond.lays "StepCourtModel" "StepCourtModel" "base" "J", Cond.soleField "StepCourtModel" "base", Cond.lays "StepCourtModel" "StepCourtModel" "asserted" "Z", Cond.soleField "StepCourtModel" "asserted", Cond.lays "StepCourtModel" "StepCourtModel" "asserter" "I", Cond.soleField "StepCourtModel" "asserter", Cond.lays "StepCourtModel" "StepCourtModel" "span" "I", Cond.soleField "StepCourtModel" "span", Cond.lays "StepCourtModel" "StepCourtModel" "limit" "I", Cond.soleField "StepCourtModel" "limit", Cond.lays "StepCourtModel" "StepCourtModel" "made" "I", Cond.soleField "StepCourtModel" "made", Cond.lays "StepCourtModel" "StepCourtModel" "claim" "J", Cond.soleField "StepCourtModel" "claim", Cond.lays "StepCourtModel" "StepCourtModel" "games" "I"]
set_option maxRecDepth 16384 in
theorem tq_33_in : ∀ w ∈ tq_33, w ∈ tables_1 := fun w h => List.mem_append_right _ (List.mem_append_right _ (List.mem_append_right _ (List.mem_append_left _ (List.mem_of_mem_drop (List.mem_of_mem_take (show w ∈ (tables_1_4.drop 72).take 24 from h))))))
def tq_34 : List Cond := [Cond.soleField "StepCourtModel" "games", Cond.laysFinal "StepCourtModel" "StepCourtModel" "challenger" "[I", Cond.soleField "StepCourtModel" "challenger", Cond.laysFinal "StepCourtModel" "StepCourtModel" "low" "[I", Cond.soleField "StepCourtModel" "low", Cond.laysFinal "StepCourtModel" "StepCourtModel" "high" "[I", Cond.soleField "StepCourtModel" "high", Cond.laysFinal "StepCourtModel" "StepCourtModel" "agreed" "[J", Cond.soleField "StepCourtModel" "agreed", Cond.laysFinal "StepCourtModel" "StepCourtModel" "disputed" "[J", Cond.soleField "StepCourtModel" "disputed", Cond.laysFinal "StepCourtModel" "StepCourtModel" "posted" "[Z", Cond.soleField "StepCourtModel" "posted", Cond.laysFinal "StepCourtModel" "StepCourtModel" "middle" "[J", Cond.soleField "StepCourtModel" "middle", Cond.laysFinal "StepCourtModel" "StepCourtModel" "deadline" "[I", Cond.soleField "StepCourtModel" "deadline", Cond.laysFinal "StepCourtModel" "StepCourtModel" "running" "[Z", Cond.soleField "StepCourtModel" "running", Cond.laysFinal "StepCourtModel" "StepCourtModel" "node" "[J", Cond.soleField "StepCourtModel" "node", Cond.laysFinal "StepCourtModel" "StepCourtModel" "side" "[J", Cond.soleField "StepCourtModel" "side", Cond.superclass "StepCourtModel" "java/lang/Object"]
set_option maxRecDepth 16384 in
theorem tq_34_in : ∀ w ∈ tq_34, w ∈ tables_1 := fun w h => List.mem_append_right _ (List.mem_append_right _ (List.mem_append_right _ (List.mem_append_left _ (List.mem_of_mem_drop (List.mem_of_mem_take (show w ∈ (tables_1_4.drop 96).take 24 from h))))))
def tq_35 : List Cond := [Cond.methodLink "StepCourtLaw" 54 ⟨"StepCourtModel", "code", "(III)Z"⟩, Cond.instanceMethod ⟨"StepCourtModel", "code", "(III)Z"⟩, Cond.selects "StepCourtModel" ⟨"StepCourtModel", "code", "(III)Z"⟩ ⟨"StepCourtModel", "code", "(III)Z"⟩, Cond.code ⟨"StepCourtModel", "code", "(III)Z"⟩ prog_11_method_15_code 4 (some .boolean), Cond.methodLink "StepCourtLaw" 60 ⟨"StepCourtModel", "deposit", "(II)I"⟩, Cond.instanceMethod ⟨"StepCourtModel", "deposit", "(II)I"⟩, Cond.selects "StepCourtModel" ⟨"StepCourtModel", "deposit", "(II)I"⟩ ⟨"StepCourtModel", "deposit", "(II)I"⟩, Cond.code ⟨"StepCourtModel", "deposit", "(II)I"⟩ prog_11_method_17_code 3 (some .int), Cond.methodLink "StepCourtModel" 140 ⟨"StepCourtModel", "isParty", "(I)Z"⟩, Cond.static ⟨"StepCourtModel", "isParty", "(I)Z"⟩, Cond.code ⟨"StepCourtModel", "isParty", "(I)Z"⟩ prog_11_method_14_code 1 (some .boolean), Cond.methodLink "StepCourtModel" 144 ⟨"StepCourtModel", "raise", "(I)I"⟩, Cond.privateMethod ⟨"StepCourtModel", "raise", "(I)I"⟩, Cond.instanceMethod ⟨"StepCourtModel", "raise", "(I)I"⟩, Cond.code ⟨"StepCourtModel", "raise", "(I)I"⟩ prog_11_method_3_code 2 (some .int), Cond.methodLink "StepCourtModel" 150 ⟨"StepCourtModel", "push", "(I)V"⟩, Cond.privateMethod ⟨"StepCourtModel", "push", "(I)V"⟩, Cond.instanceMethod ⟨"StepCourtModel", "push", "(I)V"⟩, Cond.code ⟨"StepCourtModel", "push", "(I)V"⟩ prog_11_method_16_code 2 none, Cond.methodLink "StepCourtLaw" 64 ⟨"StepCourtModel", "send", "(I)I"⟩, Cond.instanceMethod ⟨"StepCourtModel", "send", "(I)I"⟩, Cond.selects "StepCourtModel" ⟨"StepCourtModel", "send", "(I)I"⟩ ⟨"StepCourtModel", "send", "(I)I"⟩, Cond.code ⟨"StepCourtModel", "send", "(I)I"⟩ prog_11_method_18_code 2 (some .int), Cond.methodLink "StepCourtLaw" 70 ⟨"StepCourtModel", "claim", "(IIJ)J"⟩]
set_option maxRecDepth 16384 in
theorem tq_35_in : ∀ w ∈ tq_35, w ∈ tables_1 := fun w h => List.mem_append_right _ (List.mem_append_right _ (List.mem_append_right _ (List.mem_append_left _ (List.mem_of_mem_drop (List.mem_of_mem_take (show w ∈ (tables_1_4.drop 120).take 24 from h))))))
def tq_36 : List Cond := [Cond.instanceMethod ⟨"StepCourtModel", "claim", "(IIJ)J"⟩, Cond.selects "StepCourtModel" ⟨"StepCourtModel", "claim", "(IIJ)J"⟩ ⟨"StepCourtModel", "claim", "(IIJ)J"⟩, Cond.code ⟨"StepCourtModel", "claim", "(IIJ)J"⟩ prog_11_method_19_code 5 (some .long), Cond.methodLink "StepCourtModel" 153 ⟨"StepCourtModel", "trueCommitment", "(I)J"⟩, Cond.privateMethod ⟨"StepCourtModel", "trueCommitment", "(I)J"⟩, Cond.instanceMethod ⟨"StepCourtModel", "trueCommitment", "(I)J"⟩, Cond.code ⟨"StepCourtModel", "trueCommitment", "(I)J"⟩ prog_11_method_13_code 2 (some .long), Cond.methodLink "StepCourtModel" 133 ⟨"StepCourtModel", "after", "(II)V"⟩, Cond.privateMethod ⟨"StepCourtModel", "after", "(II)V"⟩, Cond.instanceMethod ⟨"StepCourtModel", "after", "(II)V"⟩, Cond.code ⟨"StepCourtModel", "after", "(II)V"⟩ prog_11_method_12_code 4 none, Cond.methodLink "StepCourtModel" 122 ⟨"StepCourtModel", "step", "(I)V"⟩, Cond.privateMethod ⟨"StepCourtModel", "step", "(I)V"⟩, Cond.instanceMethod ⟨"StepCourtModel", "step", "(I)V"⟩, Cond.code ⟨"StepCourtModel", "step", "(I)V"⟩ prog_11_method_11_code 10 none, Cond.methodLink "StepCourtModel" 118 ⟨"StepCourtModel", "wordAt", "(I)I"⟩, Cond.privateMethod ⟨"StepCourtModel", "wordAt", "(I)I"⟩, Cond.instanceMethod ⟨"StepCourtModel", "wordAt", "(I)I"⟩, Cond.code ⟨"StepCourtModel", "wordAt", "(I)I"⟩ prog_11_method_10_code 2 (some .int), Cond.methodLink "StepCourtLaw" 73 ⟨"StepCourtModel", "challenge", "(I)I"⟩, Cond.instanceMethod ⟨"StepCourtModel", "challenge", "(I)I"⟩, Cond.selects "StepCourtModel" ⟨"StepCourtModel", "challenge", "(I)I"⟩ ⟨"StepCourtModel", "challenge", "(I)I"⟩, Cond.code ⟨"StepCourtModel", "challenge", "(I)I"⟩ prog_11_method_20_code 4 (some .int), Cond.methodLink "StepCourtLaw" 77 ⟨"StepCourtModel", "post", "(IJ)J"⟩]
set_option maxRecDepth 16384 in
theorem tq_36_in : ∀ w ∈ tq_36, w ∈ tables_1 := fun w h => List.mem_append_right _ (List.mem_append_right _ (List.mem_append_right _ (List.mem_append_left _ (List.mem_of_mem_drop (List.mem_of_mem_take (show w ∈ (tables_1_4.drop 144).take 24 from h))))))
def tq_37 : List Cond := [Cond.instanceMethod ⟨"StepCourtModel", "post", "(IJ)J"⟩, Cond.selects "StepCourtModel" ⟨"StepCourtModel", "post", "(IJ)J"⟩ ⟨"StepCourtModel", "post", "(IJ)J"⟩, Cond.code ⟨"StepCourtModel", "post", "(IJ)J"⟩ prog_11_method_28_code 4 (some .long), Cond.methodLink "StepCourtModel" 185 ⟨"StepCourtModel", "isGame", "(I)Z"⟩, Cond.privateMethod ⟨"StepCourtModel", "isGame", "(I)Z"⟩, Cond.instanceMethod ⟨"StepCourtModel", "isGame", "(I)Z"⟩, Cond.code ⟨"StepCourtModel", "isGame", "(I)Z"⟩ prog_11_method_27_code 2 (some .boolean), Cond.methodLink "StepCourtModel" 188 ⟨"StepCourtModel", "due", "(I)I"⟩, Cond.privateMethod ⟨"StepCourtModel", "due", "(I)I"⟩, Cond.instanceMethod ⟨"StepCourtModel", "due", "(I)I"⟩, Cond.code ⟨"StepCourtModel", "due", "(I)I"⟩ prog_11_method_21_code 2 (some .int), Cond.methodLink "StepCourtLaw" 81 ⟨"StepCourtModel", "pick", "(IZ)I"⟩, Cond.instanceMethod ⟨"StepCourtModel", "pick", "(IZ)I"⟩, Cond.selects "StepCourtModel" ⟨"StepCourtModel", "pick", "(IZ)I"⟩ ⟨"StepCourtModel", "pick", "(IZ)I"⟩, Cond.code ⟨"StepCourtModel", "pick", "(IZ)I"⟩ prog_11_method_29_code 4 (some .int), Cond.methodLink "StepCourtLaw" 85 ⟨"StepCourtModel", "prove", "(III)Z"⟩, Cond.instanceMethod ⟨"StepCourtModel", "prove", "(III)Z"⟩, Cond.selects "StepCourtModel" ⟨"StepCourtModel", "prove", "(III)Z"⟩ ⟨"StepCourtModel", "prove", "(III)Z"⟩, Cond.code ⟨"StepCourtModel", "prove", "(III)Z"⟩ prog_11_method_32_code 4 (some .boolean), Cond.methodLink "StepCourtModel" 195 ⟨"StepCourtModel", "proves", "(III)Z"⟩, Cond.privateMethod ⟨"StepCourtModel", "proves", "(III)Z"⟩, Cond.instanceMethod ⟨"StepCourtModel", "proves", "(III)Z"⟩, Cond.code ⟨"StepCourtModel", "proves", "(III)Z"⟩ prog_11_method_31_code 9 (some .boolean), Cond.methodLink "StepCourtModel" 191 ⟨"StepCourtModel", "rootOf", "(JI)J"⟩]
set_option maxRecDepth 16384 in
theorem tq_37_in : ∀ w ∈ tq_37, w ∈ tables_1 := fun w h => List.mem_append_right _ (List.mem_append_right _ (List.mem_append_right _ (List.mem_append_left _ (List.mem_of_mem_drop (List.mem_of_mem_take (show w ∈ (tables_1_4.drop 168).take 24 from h))))))
def tq_38 : List Cond := [Cond.privateMethod ⟨"StepCourtModel", "rootOf", "(JI)J"⟩, Cond.instanceMethod ⟨"StepCourtModel", "rootOf", "(JI)J"⟩, Cond.code ⟨"StepCourtModel", "rootOf", "(JI)J"⟩ prog_11_method_30_code 7 (some .long), Cond.methodLink "StepCourtModel" 199 ⟨"StepCourtModel", "keep", "(I)V"⟩, Cond.privateMethod ⟨"StepCourtModel", "keep", "(I)V"⟩, Cond.instanceMethod ⟨"StepCourtModel", "keep", "(I)V"⟩, Cond.code ⟨"StepCourtModel", "keep", "(I)V"⟩ prog_11_method_25_code 2 none, Cond.methodLink "StepCourtModel" 178 ⟨"StepCourtModel", "settle", "()V"⟩, Cond.privateMethod ⟨"StepCourtModel", "settle", "()V"⟩, Cond.instanceMethod ⟨"StepCourtModel", "settle", "()V"⟩, Cond.code ⟨"StepCourtModel", "settle", "()V"⟩ prog_11_method_26_code 5 none, Cond.methodLink "StepCourtModel" 181 ⟨"StepCourtModel", "runningGames", "()I"⟩, Cond.privateMethod ⟨"StepCourtModel", "runningGames", "()I"⟩, Cond.instanceMethod ⟨"StepCourtModel", "runningGames", "()I"⟩, Cond.code ⟨"StepCourtModel", "runningGames", "()I"⟩ prog_11_method_22_code 3 (some .int), Cond.methodLink "StepCourtModel" 175 ⟨"StepCourtModel", "noAssertion", "()V"⟩, Cond.privateMethod ⟨"StepCourtModel", "noAssertion", "()V"⟩, Cond.instanceMethod ⟨"StepCourtModel", "noAssertion", "()V"⟩, Cond.code ⟨"StepCourtModel", "noAssertion", "()V"⟩ prog_11_method_23_code 1 none, Cond.methodLink "StepCourtLaw" 90 ⟨"StepCourtModel", "block", "()I"⟩, Cond.instanceMethod ⟨"StepCourtModel", "block", "()I"⟩, Cond.selects "StepCourtModel" ⟨"StepCourtModel", "block", "()I"⟩ ⟨"StepCourtModel", "block", "()I"⟩, Cond.code ⟨"StepCourtModel", "block", "()I"⟩ prog_11_method_33_code 2 (some .int), Cond.methodLink "StepCourtModel" 202 ⟨"StepCourtModel", "fall", "(I)V"⟩]
set_option maxRecDepth 16384 in
theorem tq_38_in : ∀ w ∈ tq_38, w ∈ tables_1 := fun w h => List.mem_append_right _ (List.mem_append_right _ (List.mem_append_right _ (List.mem_append_left _ (List.mem_of_mem_drop (List.mem_of_mem_take (show w ∈ (tables_1_4.drop 192).take 24 from h))))))
def tq_39 : List Cond := [Cond.privateMethod ⟨"StepCourtModel", "fall", "(I)V"⟩, Cond.instanceMethod ⟨"StepCourtModel", "fall", "(I)V"⟩, Cond.code ⟨"StepCourtModel", "fall", "(I)V"⟩ prog_11_method_24_code 3 none, Cond.methodLink "StepCourtLaw" 93 ⟨"StepCourtModel", "draw", "(I)I"⟩, Cond.instanceMethod ⟨"StepCourtModel", "draw", "(I)I"⟩, Cond.selects "StepCourtModel" ⟨"StepCourtModel", "draw", "(I)I"⟩ ⟨"StepCourtModel", "draw", "(I)I"⟩, Cond.code ⟨"StepCourtModel", "draw", "(I)I"⟩ prog_11_method_35_code 2 (some .int), Cond.methodLink "StepCourtModel" 205 ⟨"StepCourtModel", "realCommitment", "()J"⟩, Cond.privateMethod ⟨"StepCourtModel", "realCommitment", "()J"⟩, Cond.instanceMethod ⟨"StepCourtModel", "realCommitment", "()J"⟩, Cond.code ⟨"StepCourtModel", "realCommitment", "()J"⟩ prog_11_method_34_code 1 (some .long), Cond.methodLink "StepCourtLaw" 97 ⟨"StepCourtModel", "balance", "(I)I"⟩, Cond.instanceMethod ⟨"StepCourtModel", "balance", "(I)I"⟩, Cond.selects "StepCourtModel" ⟨"StepCourtModel", "balance", "(I)I"⟩ ⟨"StepCourtModel", "balance", "(I)I"⟩, Cond.code ⟨"StepCourtModel", "balance", "(I)I"⟩ prog_11_method_36_code 2 (some .int), Cond.methodLink "StepCourtLaw" 101 ⟨"StepCourtModel", "pot", "()I"⟩, Cond.instanceMethod ⟨"StepCourtModel", "pot", "()I"⟩, Cond.selects "StepCourtModel" ⟨"StepCourtModel", "pot", "()I"⟩ ⟨"StepCourtModel", "pot", "()I"⟩, Cond.code ⟨"StepCourtModel", "pot", "()I"⟩ prog_11_method_37_code 1 (some .int), Cond.methodLink "StepCourtLaw" 105 ⟨"StepCourtModel", "word", "(I)I"⟩, Cond.instanceMethod ⟨"StepCourtModel", "word", "(I)I"⟩, Cond.selects "StepCourtModel" ⟨"StepCourtModel", "word", "(I)I"⟩ ⟨"StepCourtModel", "word", "(I)I"⟩, Cond.code ⟨"StepCourtModel", "word", "(I)I"⟩ prog_11_method_38_code 2 (some .int), Cond.methodLink "StepCourtLaw" 110 ⟨"StepCourtModel", "truth", "(I)J"⟩]
set_option maxRecDepth 16384 in
theorem tq_39_in : ∀ w ∈ tq_39, w ∈ tables_1 := fun w h => List.mem_append_right _ (List.mem_append_right _ (List.mem_append_right _ (List.mem_append_left _ (List.mem_of_mem_drop (List.mem_of_mem_take (show w ∈ (tables_1_4.drop 216).take 24 from h))))))
def tq_40 : List Cond := [Cond.instanceMethod ⟨"StepCourtModel", "truth", "(I)J"⟩, Cond.selects "StepCourtModel" ⟨"StepCourtModel", "truth", "(I)J"⟩ ⟨"StepCourtModel", "truth", "(I)J"⟩, Cond.code ⟨"StepCourtModel", "truth", "(I)J"⟩ prog_11_method_39_code 2 (some .long), Cond.methodLink "StepCourtLaw" 115 ⟨"StepCourtModel", "base", "()J"⟩, Cond.instanceMethod ⟨"StepCourtModel", "base", "()J"⟩, Cond.selects "StepCourtModel" ⟨"StepCourtModel", "base", "()J"⟩ ⟨"StepCourtModel", "base", "()J"⟩, Cond.code ⟨"StepCourtModel", "base", "()J"⟩ prog_11_method_40_code 1 (some .long), Cond.methodLink "StepCourtLaw" 119 ⟨"StepCourtModel", "state", "(I)J"⟩, Cond.instanceMethod ⟨"StepCourtModel", "state", "(I)J"⟩, Cond.selects "StepCourtModel" ⟨"StepCourtModel", "state", "(I)J"⟩ ⟨"StepCourtModel", "state", "(I)J"⟩, Cond.code ⟨"StepCourtModel", "state", "(I)J"⟩ prog_11_method_41_code 2 (some .long), Cond.methodLink "StepCourtLaw" 123 ⟨"StepCourtModel", "assertion", "(I)J"⟩, Cond.instanceMethod ⟨"StepCourtModel", "assertion", "(I)J"⟩, Cond.selects "StepCourtModel" ⟨"StepCourtModel", "assertion", "(I)J"⟩ ⟨"StepCourtModel", "assertion", "(I)J"⟩, Cond.code ⟨"StepCourtModel", "assertion", "(I)J"⟩ prog_11_method_42_code 2 (some .long), Cond.constantLong "StepCourtModel" 208 (-1), Cond.methodLink "StepCourtLaw" 128 ⟨"StepCourtModel", "game", "(II)J"⟩, Cond.instanceMethod ⟨"StepCourtModel", "game", "(II)J"⟩, Cond.selects "StepCourtModel" ⟨"StepCourtModel", "game", "(II)J"⟩ ⟨"StepCourtModel", "game", "(II)J"⟩, Cond.code ⟨"StepCourtModel", "game", "(II)J"⟩ prog_11_method_43_code 3 (some .long), Cond.constantLong "StepCourtLaw" 65 (4294967295), Cond.sameMethod "java/lang/Throwable" "java/lang/Throwable" "fillInStackTrace" "(I)Ljava/lang/Throwable;"]
set_option maxRecDepth 16384 in
theorem tq_40_in : ∀ w ∈ tq_40, w ∈ tables_1 := fun w h => List.mem_append_right _ (List.mem_append_right _ (List.mem_append_right _ (List.mem_append_right _ ((List.mem_of_mem_drop (List.mem_of_mem_take (show w ∈ (tables_1_5.drop 0).take 22 from h)))))))
theorem wz_g {c x : Cond} (hc : c ∈ wz) : GoodIn wz (c :: wz) := fun w hw => by
  have h : w ∈ wz := (List.mem_cons.mp hw).elim (fun e => e ▸ hc) id
  exact ⟨h, good_of_word (List.mem_filter.mp h).2⟩
