abbrev TCl : List vw_C := [(RX0, TX0, 13), (RX1, TX1, 13), (RX2, TX2, 5), (RX3, TX3, 16), (RX5, TX5, 7), (RX6, TX6, 10), (RX7, TX7, 11), (RX8, TX8, 4), (RX9, TX9, 5), (RX10, TX10, 15), (RX11, TX11, 20), (RX12, TX12, 151)]
abbrev nestO : String := RX11
abbrev nestI : Nat := 18
abbrev nestY : MethodName := yX1_init
abbrev nestW : Cond := .methodLinkNest nestO nestI nestY RX11
def tyOf (t : Nat) : FieldType := match t with
  | 0 => .int
  | 1 => .long
  | 2 => .byte
  | 3 => .boolean
  | 4 => .object RX2
  | 5 => .object RX3
  | 6 => .object RX10
  | 7 => .object RX7
  | _ => .object RX9
def aoC : List String := [RX2, RX3, RX10, RX7, RX9]
/-! a memory as two functions: what stands at an address (0: an object of a kind; t + 1: an array), and what its places hold -/
def gw : List Cond := lw_tbl.filter goodWord
theorem gw_mem {w : Cond} (h : w ∈ lw_tbl) (hg : goodWord w = true) : w ∈ gw := List.mem_filter.mpr ⟨h, hg⟩
theorem gw_tbl {w : Cond} (h : w ∈ gw) : w ∈ lw_tbl := (List.mem_filter.mp h).1
theorem gw_ok {w : Cond} (h : w ∈ gw) : (w.onTables && w.keeps) = true ∨ ∃ ty, w = .arrayClass ty := good_of_word (List.mem_filter.mp h).2
theorem gw_hts {args : Array Value} {s : State} (h : ∀ w ∈ lw_tbl, w.before args s = true) : ∀ w ∈ gw, w.before args s = true := fun w hw => h w (gw_tbl hw)
