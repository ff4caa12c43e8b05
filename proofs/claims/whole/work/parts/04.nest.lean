/-- the words that a method needs: those of the tables that hold wherever it is called -/
def jtw : List Cond := lw_tbl.filter goodWord
theorem jin {w : Cond} (i : Nat) (h : lw_tbl[i]? = some w) (hg : goodWord w = true) : w ∈ jtw := List.mem_filter.mpr ⟨List.mem_of_getElem? h, hg⟩
/-- the words that link private members of nest mates: carried as facts of the state -/
def jnw : List Cond := [Cond.methodLinkNest RX2 30 yX0_init "BoilerPapers", Cond.fieldLinkNest RX2 80 "BoilerPapers$Boiler" "builtFor" "I" "BoilerPapers", Cond.fieldLinkNest RX2 90 "BoilerPapers$Boiler" "working" "I" "BoilerPapers", Cond.fieldLinkNest RX2 134 "BoilerPapers$Boiler" "wear" "I" "BoilerPapers", Cond.fieldLinkNest RX2 83 "BoilerPapers$Boiler" "condition" "I" "BoilerPapers", Cond.fieldLinkNest RX2 147 "BoilerPapers$Boiler" "repairEnd" "I" "BoilerPapers", Cond.fieldLinkNest RX2 228 "BoilerPapers$Boiler" "repairAsked" "Z" "BoilerPapers", Cond.fieldLinkNest RX2 231 "BoilerPapers$Boiler" "paperGiven" "Z" "BoilerPapers", Cond.fieldLinkNest RX2 86 "BoilerPapers$Boiler" "paperPressure" "I" "BoilerPapers", Cond.fieldLinkNest RX2 128 "BoilerPapers$Boiler" "paperLast" "I" "BoilerPapers", Cond.fieldLinkNest RX2 137 "BoilerPapers$Boiler" "shutPlanned" "Z" "BoilerPapers", Cond.fieldLinkNest RX2 141 "BoilerPapers$Boiler" "shutFrom" "I" "BoilerPapers", Cond.fieldLinkNest RX2 144 "BoilerPapers$Boiler" "shutLast" "I" "BoilerPapers", Cond.methodLinkNest RX2 31 yX3_init "BoilerPapers", Cond.fieldLinkNest RX2 97 "BoilerPapers$Inspector" "insurer" "I" "BoilerPapers", Cond.methodLinkNest RX6 28 yX4_init "BoilerPapers", Cond.fieldLinkNest RX5 30 "BoilerPapers$OrderText" "start" "I" "BoilerPapers", Cond.fieldLinkNest RX5 33 "BoilerPapers$OrderText" "kind" "C" "BoilerPapers", Cond.fieldLinkNest RX5 37 "BoilerPapers$OrderText" "one" "I" "BoilerPapers", Cond.fieldLinkNest RX5 40 "BoilerPapers$OrderText" "other" "I" "BoilerPapers", Cond.methodLinkNest RX6 35 yX5_init "BoilerPapers", Cond.methodLinkNest RX2 73 yX6_isInsurer "BoilerPapers", Cond.fieldLinkNest RX2 169 "BoilerPapers" "GREATEST_SETTINGS" "[I" "BoilerPapers", Cond.methodLinkNest RX5 61 yX6_isError "BoilerPapers"]
def jnest (w : Cond) : Bool := match w with
  | .fieldLinkNest .. => true
  | .methodLinkNest .. => true
  | _ => false
theorem jnw_ok : jnw.all jnest = true := rfl
theorem jw_30 : Cond.methodLinkNest RX2 30 yX0_init "BoilerPapers" ∈ jnw := List.mem_of_getElem? (i := 0) rfl
theorem jw_35 : Cond.fieldLinkNest RX2 80 "BoilerPapers$Boiler" "builtFor" "I" "BoilerPapers" ∈ jnw := List.mem_of_getElem? (i := 1) rfl
theorem jw_37 : Cond.fieldLinkNest RX2 90 "BoilerPapers$Boiler" "working" "I" "BoilerPapers" ∈ jnw := List.mem_of_getElem? (i := 2) rfl
theorem jw_39 : Cond.fieldLinkNest RX2 134 "BoilerPapers$Boiler" "wear" "I" "BoilerPapers" ∈ jnw := List.mem_of_getElem? (i := 3) rfl
theorem jw_41 : Cond.fieldLinkNest RX2 83 "BoilerPapers$Boiler" "condition" "I" "BoilerPapers" ∈ jnw := List.mem_of_getElem? (i := 4) rfl
theorem jw_44 : Cond.fieldLinkNest RX2 147 "BoilerPapers$Boiler" "repairEnd" "I" "BoilerPapers" ∈ jnw := List.mem_of_getElem? (i := 5) rfl
theorem jw_46 : Cond.fieldLinkNest RX2 228 "BoilerPapers$Boiler" "repairAsked" "Z" "BoilerPapers" ∈ jnw := List.mem_of_getElem? (i := 6) rfl
theorem jw_48 : Cond.fieldLinkNest RX2 231 "BoilerPapers$Boiler" "paperGiven" "Z" "BoilerPapers" ∈ jnw := List.mem_of_getElem? (i := 7) rfl
theorem jw_51 : Cond.fieldLinkNest RX2 86 "BoilerPapers$Boiler" "paperPressure" "I" "BoilerPapers" ∈ jnw := List.mem_of_getElem? (i := 8) rfl
theorem jw_53 : Cond.fieldLinkNest RX2 128 "BoilerPapers$Boiler" "paperLast" "I" "BoilerPapers" ∈ jnw := List.mem_of_getElem? (i := 9) rfl
theorem jw_55 : Cond.fieldLinkNest RX2 137 "BoilerPapers$Boiler" "shutPlanned" "Z" "BoilerPapers" ∈ jnw := List.mem_of_getElem? (i := 10) rfl
theorem jw_57 : Cond.fieldLinkNest RX2 141 "BoilerPapers$Boiler" "shutFrom" "I" "BoilerPapers" ∈ jnw := List.mem_of_getElem? (i := 11) rfl
theorem jw_59 : Cond.fieldLinkNest RX2 144 "BoilerPapers$Boiler" "shutLast" "I" "BoilerPapers" ∈ jnw := List.mem_of_getElem? (i := 12) rfl
theorem jw_91 : Cond.methodLinkNest RX2 31 yX3_init "BoilerPapers" ∈ jnw := List.mem_of_getElem? (i := 13) rfl
theorem jw_96 : Cond.fieldLinkNest RX2 97 "BoilerPapers$Inspector" "insurer" "I" "BoilerPapers" ∈ jnw := List.mem_of_getElem? (i := 14) rfl
theorem jw_161 : Cond.methodLinkNest RX6 28 yX4_init "BoilerPapers" ∈ jnw := List.mem_of_getElem? (i := 15) rfl
theorem jw_167 : Cond.fieldLinkNest RX5 30 "BoilerPapers$OrderText" "start" "I" "BoilerPapers" ∈ jnw := List.mem_of_getElem? (i := 16) rfl
theorem jw_170 : Cond.fieldLinkNest RX5 33 "BoilerPapers$OrderText" "kind" "C" "BoilerPapers" ∈ jnw := List.mem_of_getElem? (i := 17) rfl
theorem jw_172 : Cond.fieldLinkNest RX5 37 "BoilerPapers$OrderText" "one" "I" "BoilerPapers" ∈ jnw := List.mem_of_getElem? (i := 18) rfl
theorem jw_174 : Cond.fieldLinkNest RX5 40 "BoilerPapers$OrderText" "other" "I" "BoilerPapers" ∈ jnw := List.mem_of_getElem? (i := 19) rfl
theorem jw_194 : Cond.methodLinkNest RX6 35 yX5_init "BoilerPapers" ∈ jnw := List.mem_of_getElem? (i := 20) rfl
theorem jw_296 : Cond.methodLinkNest RX2 73 yX6_isInsurer "BoilerPapers" ∈ jnw := List.mem_of_getElem? (i := 21) rfl
theorem jw_446 : Cond.fieldLinkNest RX2 169 "BoilerPapers" "GREATEST_SETTINGS" "[I" "BoilerPapers" ∈ jnw := List.mem_of_getElem? (i := 22) rfl
theorem jw_676 : Cond.methodLinkNest RX5 61 yX6_isError "BoilerPapers" ∈ jnw := List.mem_of_getElem? (i := 23) rfl
set_option maxRecDepth 100000 in
theorem jw_30_t : Cond.methodLinkNest RX2 30 yX0_init "BoilerPapers" ∈ lw_tbl := List.mem_of_getElem? (i := 87) (by decide +kernel)
set_option maxRecDepth 100000 in
theorem jw_35_t : Cond.fieldLinkNest RX2 80 "BoilerPapers$Boiler" "builtFor" "I" "BoilerPapers" ∈ lw_tbl := List.mem_of_getElem? (i := 92) (by decide +kernel)
set_option maxRecDepth 100000 in
theorem jw_37_t : Cond.fieldLinkNest RX2 90 "BoilerPapers$Boiler" "working" "I" "BoilerPapers" ∈ lw_tbl := List.mem_of_getElem? (i := 94) (by decide +kernel)
set_option maxRecDepth 100000 in
theorem jw_39_t : Cond.fieldLinkNest RX2 134 "BoilerPapers$Boiler" "wear" "I" "BoilerPapers" ∈ lw_tbl := List.mem_of_getElem? (i := 96) (by decide +kernel)
set_option maxRecDepth 100000 in
theorem jw_41_t : Cond.fieldLinkNest RX2 83 "BoilerPapers$Boiler" "condition" "I" "BoilerPapers" ∈ lw_tbl := List.mem_of_getElem? (i := 98) (by decide +kernel)
set_option maxRecDepth 100000 in
theorem jw_44_t : Cond.fieldLinkNest RX2 147 "BoilerPapers$Boiler" "repairEnd" "I" "BoilerPapers" ∈ lw_tbl := List.mem_of_getElem? (i := 101) (by decide +kernel)
set_option maxRecDepth 100000 in
theorem jw_46_t : Cond.fieldLinkNest RX2 228 "BoilerPapers$Boiler" "repairAsked" "Z" "BoilerPapers" ∈ lw_tbl := List.mem_of_getElem? (i := 103) (by decide +kernel)
set_option maxRecDepth 100000 in
theorem jw_48_t : Cond.fieldLinkNest RX2 231 "BoilerPapers$Boiler" "paperGiven" "Z" "BoilerPapers" ∈ lw_tbl := List.mem_of_getElem? (i := 105) (by decide +kernel)
set_option maxRecDepth 100000 in
theorem jw_51_t : Cond.fieldLinkNest RX2 86 "BoilerPapers$Boiler" "paperPressure" "I" "BoilerPapers" ∈ lw_tbl := List.mem_of_getElem? (i := 108) (by decide +kernel)
set_option maxRecDepth 100000 in
theorem jw_53_t : Cond.fieldLinkNest RX2 128 "BoilerPapers$Boiler" "paperLast" "I" "BoilerPapers" ∈ lw_tbl := List.mem_of_getElem? (i := 110) (by decide +kernel)
set_option maxRecDepth 100000 in
theorem jw_55_t : Cond.fieldLinkNest RX2 137 "BoilerPapers$Boiler" "shutPlanned" "Z" "BoilerPapers" ∈ lw_tbl := List.mem_of_getElem? (i := 112) (by decide +kernel)
set_option maxRecDepth 100000 in
theorem jw_57_t : Cond.fieldLinkNest RX2 141 "BoilerPapers$Boiler" "shutFrom" "I" "BoilerPapers" ∈ lw_tbl := List.mem_of_getElem? (i := 114) (by decide +kernel)
set_option maxRecDepth 100000 in
theorem jw_59_t : Cond.fieldLinkNest RX2 144 "BoilerPapers$Boiler" "shutLast" "I" "BoilerPapers" ∈ lw_tbl := List.mem_of_getElem? (i := 116) (by decide +kernel)
set_option maxRecDepth 100000 in
theorem jw_91_t : Cond.methodLinkNest RX2 31 yX3_init "BoilerPapers" ∈ lw_tbl := List.mem_of_getElem? (i := 148) (by decide +kernel)
set_option maxRecDepth 100000 in
theorem jw_96_t : Cond.fieldLinkNest RX2 97 "BoilerPapers$Inspector" "insurer" "I" "BoilerPapers" ∈ lw_tbl := List.mem_of_getElem? (i := 153) (by decide +kernel)
set_option maxRecDepth 100000 in
theorem jw_161_t : Cond.methodLinkNest RX6 28 yX4_init "BoilerPapers" ∈ lw_tbl := List.mem_of_getElem? (i := 218) (by decide +kernel)
set_option maxRecDepth 100000 in
theorem jw_167_t : Cond.fieldLinkNest RX5 30 "BoilerPapers$OrderText" "start" "I" "BoilerPapers" ∈ lw_tbl := List.mem_of_getElem? (i := 224) (by decide +kernel)
set_option maxRecDepth 100000 in
theorem jw_170_t : Cond.fieldLinkNest RX5 33 "BoilerPapers$OrderText" "kind" "C" "BoilerPapers" ∈ lw_tbl := List.mem_of_getElem? (i := 227) (by decide +kernel)
set_option maxRecDepth 100000 in
theorem jw_172_t : Cond.fieldLinkNest RX5 37 "BoilerPapers$OrderText" "one" "I" "BoilerPapers" ∈ lw_tbl := List.mem_of_getElem? (i := 229) (by decide +kernel)
set_option maxRecDepth 100000 in
theorem jw_174_t : Cond.fieldLinkNest RX5 40 "BoilerPapers$OrderText" "other" "I" "BoilerPapers" ∈ lw_tbl := List.mem_of_getElem? (i := 231) (by decide +kernel)
set_option maxRecDepth 100000 in
theorem jw_194_t : Cond.methodLinkNest RX6 35 yX5_init "BoilerPapers" ∈ lw_tbl := List.mem_of_getElem? (i := 251) (by decide +kernel)
set_option maxRecDepth 100000 in
theorem jw_296_t : Cond.methodLinkNest RX2 73 yX6_isInsurer "BoilerPapers" ∈ lw_tbl := List.mem_of_getElem? (i := 353) (by decide +kernel)
set_option maxRecDepth 100000 in
theorem jw_446_t : Cond.fieldLinkNest RX2 169 "BoilerPapers" "GREATEST_SETTINGS" "[I" "BoilerPapers" ∈ lw_tbl := List.mem_of_getElem? (i := 503) (by decide +kernel)
set_option maxRecDepth 100000 in
theorem jw_676_t : Cond.methodLinkNest RX5 61 yX6_isError "BoilerPapers" ∈ lw_tbl := List.mem_of_getElem? (i := 733) (by decide +kernel)
theorem jnw_tbl : ∀ w ∈ jnw, w ∈ lw_tbl := by
  intro w hw
  simp only [jnw, List.mem_cons, List.not_mem_nil, or_false] at hw
  rcases hw with rfl | rfl | rfl | rfl | rfl | rfl | rfl | rfl | rfl | rfl | rfl | rfl | rfl | rfl | rfl | rfl | rfl | rfl | rfl | rfl | rfl | rfl | rfl | rfl
  · exact jw_30_t
  · exact jw_35_t
  · exact jw_37_t
  · exact jw_39_t
  · exact jw_41_t
  · exact jw_44_t
  · exact jw_46_t
  · exact jw_48_t
  · exact jw_51_t
  · exact jw_53_t
  · exact jw_55_t
  · exact jw_57_t
  · exact jw_59_t
  · exact jw_91_t
  · exact jw_96_t
  · exact jw_161_t
  · exact jw_167_t
  · exact jw_170_t
  · exact jw_172_t
  · exact jw_174_t
  · exact jw_194_t
  · exact jw_296_t
  · exact jw_446_t
  · exact jw_676_t
