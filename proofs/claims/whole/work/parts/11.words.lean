/-! The words that the rules of the machine ask, all among the tables. -/
section Words
/-- the fields of the classes 0 to 6: name, kind, final -/
def ab_FD : List (List (String × String × Bool)) := [[("count", "I", false), ("entries", "[I", true), ("items", "[I", true)], [("grammar", "LParserProof$Grammar;", true), ("automaton", "LParserProof$Automaton;", true), ("draft", "[I", true)], [("grammar", "LParserProof$Grammar;", true), ("automaton", "LParserProof$Automaton;", true), ("where", "[I", true)], [("count", "I", false), ("makes", "[I", true), ("lengths", "[I", true), ("rows", "[I", true), ("nullable", "[Z", true), ("firsts", "[I", true)], [("grammar", "LParserProof$Grammar;", true), ("automaton", "LParserProof$Automaton;", true), ("input", "[I", true), ("inputLength", "I", false), ("position", "I", false), ("stackStates", "[I", true), ("stackNodes", "[I", true), ("height", "I", false), ("tree", "[I", true), ("nodeCount", "I", false)], [("grammar", "LParserProof$Grammar;", true), ("automaton", "LParserProof$Automaton;", true), ("builder", "LParserProof$Builder;", true), ("checker", "LParserProof$Checker;", true), ("parser", "LParserProof$Parser;", true)], [("code", "I", false), ("rules", "I", false), ("left", "[I", true), ("size", "[I", true), ("symbols", "[I", true), ("nullable", "[Z", true), ("begins", "[Z", true), ("states", "I", false), ("items", "[Z", true), ("entries", "[I", true), ("made", "[Z", true), ("queue", "[I", true), ("queued", "I", false), ("faultState", "I", false), ("faultRule", "I", false), ("faultDot", "I", false), ("faultAhead", "I", false), ("fed", "I", false), ("input", "[I", true), ("parsed", "Z", false), ("at", "I", false), ("height", "I", false), ("nodes", "I", false), ("stackState", "[I", true), ("stackNode", "[I", true), ("symbol", "[I", true), ("madeBy", "[I", true), ("parent", "[I", true), ("begin", "[I", true), ("length", "[I", true)]]
def ab_cs (c : Nat) : String := ab_cn.getD c ""
def ab_fd (c k : Nat) : String × String × Bool := (ab_FD.getD c []).getD k ("", "", false)
def ab_T (c : Nat) : u_T := fun k => (ab_cs c, (ab_fd c k).1, (ab_fd c k).2.1, (ab_fd c k).2.2)
def ab_N (c : Nat) : Nat := (ab_FD.getD c []).length
def ab_cls : List vw_C := (List.range 7).map fun c => (ab_cs c, ab_T c, ab_N c)
def ab_tyf (c k : Nat) : FieldType := match (ab_fd c k).2.1 with
  | "I" => .int
  | "Z" => .boolean
  | "[I" => .array .int
  | "[Z" => .array .boolean
  | "LParserProof$Grammar;" => .object "ParserProof$Grammar"
  | "LParserProof$Automaton;" => .object "ParserProof$Automaton"
  | "LParserProof$Builder;" => .object "ParserProof$Builder"
  | "LParserProof$Checker;" => .object "ParserProof$Checker"
  | _ => .object "ParserProof$Parser"
theorem ab_tyok : ∀ c ∈ List.range 7, ∀ k ∈ List.range (ab_N c), parseFieldDescriptor (ab_T c k).2.2.1 = some (ab_tyf c k) := by decide +kernel
theorem ab_nmok : ∀ c ∈ List.range 7, ∀ a ∈ List.range (ab_N c), ∀ b ∈ List.range (ab_N c), a ≠ b → (ab_T c a).2.1 ≠ (ab_T c b).2.1 := by decide +kernel
theorem ab_layok : ∀ c ∈ List.range 7, ∀ w ∈ u_ws (ab_cs c) (ab_T c) (ab_N c), w ∈ lw_tbl ∧ goodWord w = true := by decide +kernel
def ab_fw (q : Nat × Nat × Nat × Nat) : Cond := .fieldLink (ab_cs q.1) q.2.1 (ab_cs q.2.2.1) (ab_T q.2.2.1 q.2.2.2).2.1 (ab_T q.2.2.1 q.2.2.2).2.2.1
theorem ab_fwok : ∀ q ∈ ab_FT, ab_fw q ∈ lw_tbl ∧ goodWord (ab_fw q) = true ∧ q.2.2.1 < 7 ∧ q.2.2.2 < ab_N q.2.2.1 := by decide +kernel
end Words
