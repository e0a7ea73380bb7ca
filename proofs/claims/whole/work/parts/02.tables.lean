/-! ===== TABLES (by program out of claim/Statement.lean): classes, fields, methods, code, pool entries ===== -/
def x_cnL : List String := ["CapTreeKernel", "CapTreeKernel$Capability", "CapTreeKernel$KernelThread", "CapTreeKernel$ThreadLine", "CapTreeKernel$Untyped", "CapTreeKernel$Table", "CapTreeKernel$Gate", "CapTreeKernel$Bell", "CapTreeKernel$Space", "CapTreeKernel$Leaf", "CapTreeKernel$Frame", "CapTreeKernelModel", "CapTreeKernel$Thing", "CapTreeKernelLaw"]
def x_cn (t : Nat) : String := x_cnL.getD t ""
def x_TL : List (List (String × String × String × Bool)) := [
  [("CapTreeKernel", "slots", "[LCapTreeKernel$Capability;", true), ("CapTreeKernel", "threads", "[LCapTreeKernel$KernelThread;", true), ("CapTreeKernel", "readyLines", "[LCapTreeKernel$ThreadLine;", true), ("CapTreeKernel", "boundBells", "[LCapTreeKernel$Bell;", true)],
  [("CapTreeKernel$Capability", "thing", "LCapTreeKernel$Thing;", true), ("CapTreeKernel$Capability", "rights", "I", true), ("CapTreeKernel$Capability", "badge", "I", true), ("CapTreeKernel$Capability", "parent", "LCapTreeKernel$Capability;", false), ("CapTreeKernel$Capability", "place", "I", false), ("CapTreeKernel$Capability", "leaf", "LCapTreeKernel$Leaf;", false), ("CapTreeKernel$Capability", "entry", "I", false), ("CapTreeKernel$Capability", "doomed", "Z", false)],
  [("CapTreeKernel$Thing", "kind", "I", true), ("CapTreeKernel$Thing", "at", "I", true), ("CapTreeKernel$KernelThread", "table", "LCapTreeKernel$Table;", false), ("CapTreeKernel$KernelThread", "space", "LCapTreeKernel$Space;", false), ("CapTreeKernel$KernelThread", "priority", "I", false), ("CapTreeKernel$KernelThread", "state", "I", false), ("CapTreeKernel$KernelThread", "slice", "I", false), ("CapTreeKernel$KernelThread", "word", "I", false), ("CapTreeKernel$KernelThread", "badge", "I", false), ("CapTreeKernel$KernelThread", "mark", "I", false), ("CapTreeKernel$KernelThread", "line", "LCapTreeKernel$ThreadLine;", false), ("CapTreeKernel$KernelThread", "next", "LCapTreeKernel$KernelThread;", false), ("CapTreeKernel$KernelThread", "sentWord", "I", false), ("CapTreeKernel$KernelThread", "sentBadge", "I", false), ("CapTreeKernel$KernelThread", "mayGrant", "Z", false), ("CapTreeKernel$KernelThread", "capAddress", "I", false)],
  [("CapTreeKernel$ThreadLine", "first", "LCapTreeKernel$KernelThread;", false), ("CapTreeKernel$ThreadLine", "last", "LCapTreeKernel$KernelThread;", false)],
  [("CapTreeKernel$Thing", "kind", "I", true), ("CapTreeKernel$Thing", "at", "I", true), ("CapTreeKernel$Untyped", "size", "I", true), ("CapTreeKernel$Untyped", "latestEnd", "I", false)],
  [("CapTreeKernel$Thing", "kind", "I", true), ("CapTreeKernel$Thing", "at", "I", true)],
  [("CapTreeKernel$Thing", "kind", "I", true), ("CapTreeKernel$Thing", "at", "I", true), ("CapTreeKernel$Gate", "waiting", "LCapTreeKernel$ThreadLine;", true)],
  [("CapTreeKernel$Thing", "kind", "I", true), ("CapTreeKernel$Thing", "at", "I", true), ("CapTreeKernel$Bell", "waiting", "LCapTreeKernel$ThreadLine;", true), ("CapTreeKernel$Bell", "word", "I", false)],
  [("CapTreeKernel$Thing", "kind", "I", true), ("CapTreeKernel$Thing", "at", "I", true), ("CapTreeKernel$Space", "leaves", "[LCapTreeKernel$Leaf;", true)],
  [("CapTreeKernel$Thing", "kind", "I", true), ("CapTreeKernel$Thing", "at", "I", true), ("CapTreeKernel$Leaf", "space", "LCapTreeKernel$Space;", false), ("CapTreeKernel$Leaf", "entry", "I", false), ("CapTreeKernel$Leaf", "frames", "[LCapTreeKernel$Capability;", true)],
  [("CapTreeKernel$Thing", "kind", "I", true), ("CapTreeKernel$Thing", "at", "I", true)],
  [("CapTreeKernelModel", "kind", "[I", true), ("CapTreeKernelModel", "unit", "[I", true), ("CapTreeKernelModel", "rights", "[I", true), ("CapTreeKernelModel", "badge", "[I", true), ("CapTreeKernelModel", "parent", "[I", true), ("CapTreeKernelModel", "bits", "[I", true), ("CapTreeKernelModel", "behind", "[I", true), ("CapTreeKernelModel", "inLeaf", "[I", true), ("CapTreeKernelModel", "inEntry", "[I", true), ("CapTreeKernelModel", "doomed", "[Z", true), ("CapTreeKernelModel", "state", "[I", true), ("CapTreeKernelModel", "table", "[I", true), ("CapTreeKernelModel", "space", "[I", true), ("CapTreeKernelModel", "priority", "[I", true), ("CapTreeKernelModel", "slice", "[I", true), ("CapTreeKernelModel", "word", "[I", true), ("CapTreeKernelModel", "gotBadge", "[I", true), ("CapTreeKernelModel", "mark", "[I", true), ("CapTreeKernelModel", "since", "[I", true), ("CapTreeKernelModel", "place", "[I", true), ("CapTreeKernelModel", "address", "[I", true), ("CapTreeKernelModel", "sentWord", "[I", true), ("CapTreeKernelModel", "sentBadge", "[I", true), ("CapTreeKernelModel", "grants", "[Z", true), ("CapTreeKernelModel", "bell", "[I", true), ("CapTreeKernelModel", "leafSpace", "[I", true), ("CapTreeKernelModel", "leafEntry", "[I", true), ("CapTreeKernelModel", "line", "[I", true), ("CapTreeKernelModel", "clock", "I", false)]]
def x_T (t : Nat) : u_T := fun k => (x_TL.getD t []).getD k ("", "", "", false)
def x_N (t : Nat) : Nat := (x_TL.getD t []).length
def x_tyL : List (List FieldType) := [
  [.array (.object "CapTreeKernel$Capability"), .array (.object "CapTreeKernel$KernelThread"), .array (.object "CapTreeKernel$ThreadLine"), .array (.object "CapTreeKernel$Bell")],
  [.object "CapTreeKernel$Thing", .int, .int, .object "CapTreeKernel$Capability", .int, .object "CapTreeKernel$Leaf", .int, .boolean],
  [.int, .int, .object "CapTreeKernel$Table", .object "CapTreeKernel$Space", .int, .int, .int, .int, .int, .int, .object "CapTreeKernel$ThreadLine", .object "CapTreeKernel$KernelThread", .int, .int, .boolean, .int],
  [.object "CapTreeKernel$KernelThread", .object "CapTreeKernel$KernelThread"],
  [.int, .int, .int, .int],
  [.int, .int],
  [.int, .int, .object "CapTreeKernel$ThreadLine"],
  [.int, .int, .object "CapTreeKernel$ThreadLine", .int],
  [.int, .int, .array (.object "CapTreeKernel$Leaf")],
  [.int, .int, .object "CapTreeKernel$Space", .int, .array (.object "CapTreeKernel$Capability")],
  [.int, .int],
  [.array (.int), .array (.int), .array (.int), .array (.int), .array (.int), .array (.int), .array (.int), .array (.int), .array (.int), .array (.boolean), .array (.int), .array (.int), .array (.int), .array (.int), .array (.int), .array (.int), .array (.int), .array (.int), .array (.int), .array (.int), .array (.int), .array (.int), .array (.int), .array (.boolean), .array (.int), .array (.int), .array (.int), .array (.int), .int]]
def x_ty (t k : Nat) : FieldType := (x_tyL.getD t []).getD k .int
def x_dfL : List (List Value) := [
  [.null, .null, .null, .null],
  [.null, .int 0, .int 0, .null, .int 0, .null, .int 0, .int 0],
  [.int 0, .int 0, .null, .null, .int 0, .int 0, .int 0, .int 0, .int 0, .int 0, .null, .null, .int 0, .int 0, .int 0, .int 0],
  [.null, .null],
  [.int 0, .int 0, .int 0, .int 0],
  [.int 0, .int 0],
  [.int 0, .int 0, .null],
  [.int 0, .int 0, .null, .int 0],
  [.int 0, .int 0, .null],
  [.int 0, .int 0, .null, .int 0, .null],
  [.int 0, .int 0],
  [.null, .null, .null, .null, .null, .null, .null, .null, .null, .null, .null, .null, .null, .null, .null, .null, .null, .null, .null, .null, .null, .null, .null, .null, .null, .null, .null, .null, .int 0]]
def x_df (t k : Nat) : Value := (x_dfL.getD t []).getD k .null
def xcl : List vw_C := (List.range 12).map (fun t => (x_cn t, x_T t, x_N t))
/-- arrays of objects of these classes are made; things; classes that instanceof asks for -/
def x_arrs : List Nat := [1, 2, 3, 7, 9]
def x_things : List Nat := [2, 4, 5, 6, 7, 8, 9, 10]
def x_tgts : List Nat := [2, 4, 5, 6, 7, 8, 9]
abbrev x_M : Nat := 11
def x_aty (t : Nat) : Option FieldType := if t = 20 then some .int else if t = 21 then some .boolean else if 30 ≤ t ∧ t - 30 ∈ x_arrs then some (.object (x_cn (t - 30))) else none
def x_kd : FieldType → Nat
  | .int => 0
  | .boolean => 1
  | .object _ => 2
  | .array _ => 2
  | _ => 3
/-! methods: name, code, most locals, answer, own class, arguments, calls' depth, locals below, kind of answer, is it <init> -/
def x_yL : List MethodName := [
  ⟨"CapTreeKernel", "<init>", "()V"⟩,
  ⟨"CapTreeKernel$ThreadLine", "<init>", "()V"⟩,
  ⟨"CapTreeKernel$Table", "<init>", "(I)V"⟩,
  ⟨"CapTreeKernel$Thing", "<init>", "(II)V"⟩,
  ⟨"CapTreeKernel$KernelThread", "<init>", "(I)V"⟩,
  ⟨"CapTreeKernel", "becomeReady", "(LCapTreeKernel$KernelThread;)V"⟩,
  ⟨"CapTreeKernel", "leaveLine", "(LCapTreeKernel$KernelThread;)V"⟩,
  ⟨"CapTreeKernel", "joinLine", "(LCapTreeKernel$KernelThread;LCapTreeKernel$ThreadLine;)V"⟩,
  ⟨"CapTreeKernel$Capability", "<init>", "(LCapTreeKernel$Thing;IILCapTreeKernel$Capability;)V"⟩,
  ⟨"CapTreeKernel", "put", "(LCapTreeKernel$Capability;I)V"⟩,
  ⟨"CapTreeKernel$Untyped", "<init>", "(II)V"⟩,
  ⟨"CapTreeKernel", "retype", "(IIII)I"⟩,
  ⟨"CapTreeKernel", "currentThread", "()LCapTreeKernel$KernelThread;"⟩,
  ⟨"CapTreeKernel", "capabilityAt", "(LCapTreeKernel$KernelThread;I)LCapTreeKernel$Capability;"⟩,
  ⟨"CapTreeKernel", "placeOf", "(LCapTreeKernel$KernelThread;I)I"⟩,
  ⟨"CapTreeKernel", "isEmptySlot", "(I)Z"⟩,
  ⟨"CapTreeKernel", "freePoint", "(LCapTreeKernel$Capability;LCapTreeKernel$Untyped;)I"⟩,
  ⟨"CapTreeKernel", "childrenOf", "(LCapTreeKernel$Capability;)I"⟩,
  ⟨"CapTreeKernel", "roundUp", "(II)I"⟩,
  ⟨"CapTreeKernel", "makeThing", "(III)LCapTreeKernel$Thing;"⟩,
  ⟨"CapTreeKernel$Gate", "<init>", "(I)V"⟩,
  ⟨"CapTreeKernel$Bell", "<init>", "(I)V"⟩,
  ⟨"CapTreeKernel$Space", "<init>", "(I)V"⟩,
  ⟨"CapTreeKernel$Leaf", "<init>", "(I)V"⟩,
  ⟨"CapTreeKernel$Frame", "<init>", "(I)V"⟩,
  ⟨"CapTreeKernel", "copy", "(IIII)I"⟩,
  ⟨"CapTreeKernel", "move", "(II)I"⟩,
  ⟨"CapTreeKernel", "delete", "(I)I"⟩,
  ⟨"CapTreeKernel", "removeDoomed", "()V"⟩,
  ⟨"CapTreeKernel", "removeOne", "(LCapTreeKernel$Capability;)V"⟩,
  ⟨"CapTreeKernel", "leaveLeaf", "(LCapTreeKernel$Capability;)V"⟩,
  ⟨"CapTreeKernel", "capabilitiesFor", "(LCapTreeKernel$Thing;)I"⟩,
  ⟨"CapTreeKernel", "destroy", "(LCapTreeKernel$Thing;)V"⟩,
  ⟨"CapTreeKernel", "destroyTable", "(LCapTreeKernel$Table;)V"⟩,
  ⟨"CapTreeKernel", "stopAllAt", "(LCapTreeKernel$ThreadLine;)V"⟩,
  ⟨"CapTreeKernel", "becomeStopped", "(LCapTreeKernel$KernelThread;)V"⟩,
  ⟨"CapTreeKernel", "unbindAll", "(LCapTreeKernel$Bell;)V"⟩,
  ⟨"CapTreeKernel", "destroySpace", "(LCapTreeKernel$Space;)V"⟩,
  ⟨"CapTreeKernel", "leaveSpace", "(LCapTreeKernel$Leaf;)V"⟩,
  ⟨"CapTreeKernel", "destroyLeaf", "(LCapTreeKernel$Leaf;)V"⟩,
  ⟨"CapTreeKernel", "revoke", "(I)I"⟩,
  ⟨"CapTreeKernel", "descendsFrom", "(LCapTreeKernel$Capability;LCapTreeKernel$Capability;)Z"⟩,
  ⟨"CapTreeKernel", "configure", "(IIII)I"⟩,
  ⟨"CapTreeKernel", "threadAt", "(LCapTreeKernel$KernelThread;I)LCapTreeKernel$KernelThread;"⟩,
  ⟨"CapTreeKernel", "tableAt", "(LCapTreeKernel$KernelThread;I)LCapTreeKernel$Table;"⟩,
  ⟨"CapTreeKernel", "spaceAt", "(LCapTreeKernel$KernelThread;I)LCapTreeKernel$Space;"⟩,
  ⟨"CapTreeKernel", "changePriority", "(LCapTreeKernel$KernelThread;I)V"⟩,
  ⟨"CapTreeKernel", "run", "(IZ)I"⟩,
  ⟨"CapTreeKernel", "send", "(IIIZ)I"⟩,
  ⟨"CapTreeKernel", "firstWaiting", "(LCapTreeKernel$ThreadLine;I)LCapTreeKernel$KernelThread;"⟩,
  ⟨"CapTreeKernel", "becomeWaiting", "(LCapTreeKernel$KernelThread;ILCapTreeKernel$ThreadLine;)V"⟩,
  ⟨"CapTreeKernel", "transfer", "(LCapTreeKernel$KernelThread;LCapTreeKernel$KernelThread;)V"⟩,
  ⟨"CapTreeKernel", "handOver", "(LCapTreeKernel$KernelThread;LCapTreeKernel$KernelThread;)Z"⟩,
  ⟨"CapTreeKernel", "receive", "(IIZ)I"⟩,
  ⟨"CapTreeKernel", "signal", "(I)I"⟩,
  ⟨"CapTreeKernel", "ring", "(LCapTreeKernel$Bell;I)V"⟩,
  ⟨"CapTreeKernel$KernelThread", "hear", "(I)V"⟩,
  ⟨"CapTreeKernel", "listen", "(IZ)I"⟩,
  ⟨"CapTreeKernel", "map", "(III)I"⟩,
  ⟨"CapTreeKernel", "mappableAt", "(LCapTreeKernel$KernelThread;I)LCapTreeKernel$Capability;"⟩,
  ⟨"CapTreeKernel", "mapLeaf", "(LCapTreeKernel$Leaf;LCapTreeKernel$Space;I)I"⟩,
  ⟨"CapTreeKernel", "mapFrame", "(LCapTreeKernel$Capability;LCapTreeKernel$Leaf;I)I"⟩,
  ⟨"CapTreeKernel", "unmap", "(I)I"⟩,
  ⟨"CapTreeKernel", "isMapped", "(LCapTreeKernel$Capability;)Z"⟩,
  ⟨"CapTreeKernel", "bind", "(II)I"⟩,
  ⟨"CapTreeKernel", "bellAt", "(LCapTreeKernel$KernelThread;I)LCapTreeKernel$Bell;"⟩,
  ⟨"CapTreeKernel", "interrupt", "(I)I"⟩,
  ⟨"CapTreeKernel", "tick", "()I"⟩,
  ⟨"CapTreeKernel", "unitOf", "(LCapTreeKernel$Thing;)I"⟩,
  ⟨"CapTreeKernel", "current", "()I"⟩,
  ⟨"CapTreeKernel", "slot", "(III)I"⟩,
  ⟨"CapTreeKernel", "whereIs", "(LCapTreeKernel$Capability;)I"⟩,
  ⟨"CapTreeKernel", "useOf", "(LCapTreeKernel$Capability;)I"⟩,
  ⟨"CapTreeKernel", "thread", "(II)I"⟩,
  ⟨"CapTreeKernel", "threadOfUnit", "(I)LCapTreeKernel$KernelThread;"⟩,
  ⟨"CapTreeKernel", "page", "(II)I"⟩,
  ⟨"CapTreeKernelModel", "<init>", "()V"⟩,
  ⟨"CapTreeKernelModel", "fill", "(IIIII)V"⟩,
  ⟨"CapTreeKernelModel", "begin", "(II)V"⟩,
  ⟨"CapTreeKernelModel", "ready", "(I)V"⟩,
  ⟨"CapTreeKernelModel", "retype", "(IIII)I"⟩,
  ⟨"CapTreeKernelModel", "now", "()I"⟩,
  ⟨"CapTreeKernelModel", "having", "(II)I"⟩,
  ⟨"CapTreeKernelModel", "find", "(II)I"⟩,
  ⟨"CapTreeKernelModel", "vacant", "(I)I"⟩,
  ⟨"CapTreeKernelModel", "sizeOf", "(II)I"⟩,
  ⟨"CapTreeKernelModel", "freePoint", "(I)I"⟩,
  ⟨"CapTreeKernelModel", "children", "(I)I"⟩,
  ⟨"CapTreeKernelModel", "copy", "(IIII)I"⟩,
  ⟨"CapTreeKernelModel", "move", "(II)I"⟩,
  ⟨"CapTreeKernelModel", "delete", "(I)I"⟩,
  ⟨"CapTreeKernelModel", "sweep", "()V"⟩,
  ⟨"CapTreeKernelModel", "remove", "(I)V"⟩,
  ⟨"CapTreeKernelModel", "holders", "(II)I"⟩,
  ⟨"CapTreeKernelModel", "revoke", "(I)I"⟩,
  ⟨"CapTreeKernelModel", "configure", "(IIII)I"⟩,
  ⟨"CapTreeKernelModel", "run", "(IZ)I"⟩,
  ⟨"CapTreeKernelModel", "send", "(IIIZ)I"⟩,
  ⟨"CapTreeKernelModel", "first", "(II)I"⟩,
  ⟨"CapTreeKernelModel", "waits", "(IIII)V"⟩,
  ⟨"CapTreeKernelModel", "transfer", "(II)V"⟩,
  ⟨"CapTreeKernelModel", "receive", "(IIZ)I"⟩,
  ⟨"CapTreeKernelModel", "signal", "(I)I"⟩,
  ⟨"CapTreeKernelModel", "ring", "(II)V"⟩,
  ⟨"CapTreeKernelModel", "hears", "(II)V"⟩,
  ⟨"CapTreeKernelModel", "listen", "(IZ)I"⟩,
  ⟨"CapTreeKernelModel", "map", "(III)I"⟩,
  ⟨"CapTreeKernelModel", "leafOf", "(II)I"⟩,
  ⟨"CapTreeKernelModel", "there", "(II)Z"⟩,
  ⟨"CapTreeKernelModel", "frameOf", "(II)I"⟩,
  ⟨"CapTreeKernelModel", "unmap", "(I)I"⟩,
  ⟨"CapTreeKernelModel", "mapped", "(I)Z"⟩,
  ⟨"CapTreeKernelModel", "bind", "(II)I"⟩,
  ⟨"CapTreeKernelModel", "interrupt", "(I)I"⟩,
  ⟨"CapTreeKernelModel", "tick", "()I"⟩,
  ⟨"CapTreeKernelModel", "current", "()I"⟩,
  ⟨"CapTreeKernelModel", "slot", "(III)I"⟩,
  ⟨"CapTreeKernelModel", "thread", "(II)I"⟩,
  ⟨"CapTreeKernelModel", "page", "(II)I"⟩,
  ⟨"CapTreeKernelLaw", "law", "([I)Z"⟩]
def xm_y (i : Nat) : MethodName := x_yL.getD i ⟨"", "", ""⟩
def x_bL : List ByteArray := [prog_1_method_1_code, prog_11_method_1_code, prog_9_method_1_code, prog_10_method_1_code, prog_6_method_1_code, prog_1_method_50_code, prog_1_method_55_code, prog_1_method_54_code, prog_3_method_1_code, prog_1_method_33_code, prog_12_method_1_code, prog_1_method_2_code, prog_1_method_47_code, prog_1_method_24_code, prog_1_method_22_code, prog_1_method_23_code, prog_1_method_30_code, prog_1_method_35_code, prog_1_method_31_code, prog_1_method_32_code, prog_5_method_1_code, prog_2_method_1_code, prog_8_method_1_code, prog_7_method_1_code, prog_4_method_1_code, prog_1_method_3_code, prog_1_method_4_code, prog_1_method_5_code, prog_1_method_39_code, prog_1_method_40_code, prog_1_method_64_code, prog_1_method_36_code, prog_1_method_41_code, prog_1_method_42_code, prog_1_method_46_code, prog_1_method_51_code, prog_1_method_43_code, prog_1_method_44_code, prog_1_method_63_code, prog_1_method_45_code, prog_1_method_6_code, prog_1_method_34_code, prog_1_method_7_code, prog_1_method_25_code, prog_1_method_26_code, prog_1_method_27_code, prog_1_method_53_code, prog_1_method_8_code, prog_1_method_9_code, prog_1_method_56_code, prog_1_method_52_code, prog_1_method_57_code, prog_1_method_58_code, prog_1_method_10_code, prog_1_method_11_code, prog_1_method_59_code, prog_6_method_2_code, prog_1_method_12_code, prog_1_method_13_code, prog_1_method_29_code, prog_1_method_60_code, prog_1_method_61_code, prog_1_method_14_code, prog_1_method_62_code, prog_1_method_15_code, prog_1_method_28_code, prog_1_method_16_code, prog_1_method_17_code, prog_1_method_49_code, prog_1_method_18_code, prog_1_method_19_code, prog_1_method_37_code, prog_1_method_38_code, prog_1_method_20_code, prog_1_method_48_code, prog_1_method_21_code, prog_14_method_1_code, prog_14_method_2_code, prog_14_method_3_code, prog_14_method_4_code, prog_14_method_19_code, prog_14_method_6_code, prog_14_method_8_code, prog_14_method_7_code, prog_14_method_9_code, prog_14_method_5_code, prog_14_method_13_code, prog_14_method_10_code, prog_14_method_20_code, prog_14_method_21_code, prog_14_method_22_code, prog_14_method_17_code, prog_14_method_18_code, prog_14_method_11_code, prog_14_method_23_code, prog_14_method_24_code, prog_14_method_25_code, prog_14_method_28_code, prog_14_method_14_code, prog_14_method_26_code, prog_14_method_27_code, prog_14_method_29_code, prog_14_method_32_code, prog_14_method_30_code, prog_14_method_31_code, prog_14_method_33_code, prog_14_method_34_code, prog_14_method_15_code, prog_14_method_12_code, prog_14_method_16_code, prog_14_method_36_code, prog_14_method_35_code, prog_14_method_37_code, prog_14_method_38_code, prog_14_method_39_code, prog_14_method_40_code, prog_14_method_41_code, prog_14_method_42_code, prog_14_method_43_code, code]
def xm_b (i : Nat) : ByteArray := x_bL.getD i ⟨#[]⟩
def x_rtL : List (Option FieldType) := [none, none, none, none, none, none, none, none, none, none, none, (some .int), (some (.object "CapTreeKernel$KernelThread")), (some (.object "CapTreeKernel$Capability")), (some .int), (some .boolean), (some .int), (some .int), (some .int), (some (.object "CapTreeKernel$Thing")), none, none, none, none, none, (some .int), (some .int), (some .int), none, none, none, (some .int), none, none, none, none, none, none, none, none, (some .int), (some .boolean), (some .int), (some (.object "CapTreeKernel$KernelThread")), (some (.object "CapTreeKernel$Table")), (some (.object "CapTreeKernel$Space")), none, (some .int), (some .int), (some (.object "CapTreeKernel$KernelThread")), none, none, (some .boolean), (some .int), (some .int), none, none, (some .int), (some .int), (some (.object "CapTreeKernel$Capability")), (some .int), (some .int), (some .int), (some .boolean), (some .int), (some (.object "CapTreeKernel$Bell")), (some .int), (some .int), (some .int), (some .int), (some .int), (some .int), (some .int), (some .int), (some (.object "CapTreeKernel$KernelThread")), (some .int), none, none, none, none, (some .int), (some .int), (some .int), (some .int), (some .int), (some .int), (some .int), (some .int), (some .int), (some .int), (some .int), none, none, (some .int), (some .int), (some .int), (some .int), (some .int), (some .int), none, none, (some .int), (some .int), none, none, (some .int), (some .int), (some .int), (some .boolean), (some .int), (some .int), (some .boolean), (some .int), (some .int), (some .int), (some .int), (some .int), (some .int), (some .int), (some .boolean)]
def xm_rt (i : Nat) : Option FieldType := x_rtL.getD i none
/-- (most locals, own class, arguments, depth, locals below, kind of answer, <init>) -/
def x_mL : List (Nat × Nat × Nat × Nat × Nat × Nat × Bool) := [
  (3, 0, 1, 3, 64, 0, true),
  (1, 3, 1, 1, 20, 0, true),
  (2, 5, 2, 2, 42, 0, true),
  (3, 12, 3, 1, 20, 0, true),
  (2, 2, 2, 2, 42, 0, true),
  (2, 0, 2, 1, 23, 0, false),
  (4, 0, 1, 0, 0, 0, false),
  (2, 0, 2, 0, 0, 0, false),
  (5, 1, 5, 1, 20, 0, true),
  (3, 0, 3, 0, 0, 0, false),
  (3, 4, 3, 2, 42, 0, true),
  (11, 0, 5, 4, 88, 1, false),
  (2, 0, 1, 0, 0, 3, false),
  (4, 0, 3, 1, 23, 3, false),
  (4, 0, 3, 0, 0, 1, false),
  (2, 0, 2, 0, 0, 2, false),
  (3, 0, 3, 1, 24, 1, false),
  (5, 0, 2, 0, 0, 1, false),
  (2, 0, 2, 0, 0, 1, false),
  (5, 0, 4, 3, 64, 3, false),
  (2, 6, 2, 2, 42, 0, true),
  (2, 7, 2, 2, 42, 0, true),
  (2, 8, 2, 2, 42, 0, true),
  (2, 9, 2, 2, 42, 0, true),
  (2, 10, 2, 2, 42, 0, true),
  (11, 0, 5, 2, 46, 1, false),
  (6, 0, 3, 2, 46, 1, false),
  (4, 0, 2, 6, 140, 1, false),
  (5, 0, 1, 5, 116, 0, false),
  (4, 0, 2, 4, 93, 0, false),
  (1, 0, 1, 0, 0, 0, false),
  (5, 0, 2, 0, 0, 1, false),
  (8, 0, 2, 3, 66, 0, false),
  (4, 0, 2, 0, 0, 0, false),
  (4, 0, 2, 2, 43, 0, false),
  (1, 0, 1, 1, 23, 0, false),
  (3, 0, 2, 0, 0, 0, false),
  (4, 0, 2, 1, 20, 0, false),
  (1, 0, 1, 0, 0, 0, false),
  (3, 0, 1, 1, 20, 0, false),
  (6, 0, 2, 6, 140, 1, false),
  (3, 0, 2, 0, 0, 2, false),
  (9, 0, 5, 3, 71, 1, false),
  (6, 0, 3, 2, 46, 3, false),
  (6, 0, 3, 2, 46, 3, false),
  (6, 0, 3, 2, 46, 3, false),
  (3, 0, 3, 1, 23, 0, false),
  (5, 0, 3, 3, 71, 1, false),
  (9, 0, 5, 4, 92, 1, false),
  (3, 0, 2, 0, 0, 3, false),
  (3, 0, 3, 1, 23, 0, false),
  (3, 0, 3, 3, 70, 0, false),
  (5, 0, 3, 2, 46, 2, false),
  (8, 0, 4, 4, 92, 1, false),
  (6, 0, 2, 3, 67, 1, false),
  (4, 0, 3, 2, 44, 0, false),
  (2, 2, 2, 0, 0, 0, false),
  (7, 0, 3, 2, 46, 1, false),
  (9, 0, 4, 3, 71, 1, false),
  (4, 0, 3, 2, 46, 3, false),
  (3, 0, 3, 0, 0, 1, false),
  (3, 0, 3, 0, 0, 1, false),
  (6, 0, 2, 3, 69, 1, false),
  (3, 0, 1, 0, 0, 2, false),
  (5, 0, 3, 3, 71, 1, false),
  (6, 0, 3, 2, 46, 3, false),
  (3, 0, 2, 3, 67, 1, false),
  (2, 0, 1, 2, 44, 1, false),
  (1, 0, 1, 0, 0, 1, false),
  (1, 0, 1, 1, 21, 1, false),
  (5, 0, 4, 3, 69, 1, false),
  (2, 0, 1, 0, 0, 1, false),
  (4, 0, 2, 2, 46, 1, false),
  (4, 0, 3, 1, 21, 1, false),
  (2, 0, 2, 0, 0, 3, false),
  (6, 0, 3, 1, 21, 1, false),
  (2, 11, 1, 1, 25, 0, true),
  (6, 11, 6, 0, 0, 0, false),
  (4, 11, 3, 0, 0, 0, false),
  (2, 11, 2, 0, 0, 0, false),
  (9, 11, 5, 2, 46, 1, false),
  (4, 11, 1, 0, 0, 1, false),
  (4, 11, 3, 1, 23, 1, false),
  (4, 11, 3, 0, 0, 1, false),
  (3, 11, 2, 1, 23, 1, false),
  (2, 11, 2, 0, 0, 1, false),
  (2, 11, 2, 1, 23, 1, false),
  (4, 11, 2, 0, 0, 1, false),
  (7, 11, 5, 2, 46, 1, false),
  (6, 11, 3, 2, 46, 1, false),
  (3, 11, 2, 3, 72, 1, false),
  (4, 11, 1, 2, 49, 0, false),
  (6, 11, 2, 1, 24, 0, false),
  (5, 11, 3, 0, 0, 1, false),
  (6, 11, 2, 3, 72, 1, false),
  (9, 11, 5, 2, 46, 1, false),
  (5, 11, 3, 2, 46, 1, false),
  (8, 11, 5, 2, 50, 1, false),
  (5, 11, 3, 0, 0, 1, false),
  (5, 11, 5, 0, 0, 0, false),
  (6, 11, 3, 1, 25, 0, false),
  (7, 11, 4, 2, 50, 1, false),
  (3, 11, 2, 2, 47, 1, false),
  (4, 11, 3, 1, 24, 0, false),
  (3, 11, 3, 0, 0, 0, false),
  (6, 11, 3, 2, 46, 1, false),
  (7, 11, 4, 3, 69, 1, false),
  (4, 11, 3, 2, 46, 1, false),
  (3, 11, 3, 1, 24, 2, false),
  (4, 11, 3, 0, 0, 1, false),
  (3, 11, 2, 2, 46, 1, false),
  (2, 11, 2, 0, 0, 2, false),
  (4, 11, 3, 2, 46, 1, false),
  (2, 11, 2, 2, 47, 1, false),
  (2, 11, 1, 2, 44, 1, false),
  (2, 11, 1, 1, 23, 1, false),
  (5, 11, 4, 2, 46, 1, false),
  (4, 11, 3, 2, 46, 1, false),
  (5, 11, 3, 3, 69, 1, false),
  (4, 13, 1, 7, 165, 2, false)]
def x_mD (i : Nat) : Nat × Nat × Nat × Nat × Nat × Nat × Bool := x_mL.getD i (0, 99, 0, 0, 0, 9, false)
def xm_max (i : Nat) : Nat := (x_mD i).1
def xm_own (i : Nat) : Nat := (x_mD i).2.1
def xm_na (i : Nat) : Nat := (x_mD i).2.2.1
def xm_dep (i : Nat) : Nat := (x_mD i).2.2.2.1
def xm_loc (i : Nat) : Nat := (x_mD i).2.2.2.2.1
def xm_rk (i : Nat) : Nat := (x_mD i).2.2.2.2.2.1
def xm_ini (i : Nat) : Bool := (x_mD i).2.2.2.2.2.2
def xm_ok (i : Nat) : Bool := decide (i < 119)
/-! code -/
/-- 0: CapTreeKernel.<init>()V -/
def x_l0 : List (Nat × Instr) := [(0, .aload_n 0), (1, .invokespecial 1), (4, .aload_n 0), (5, .sipush 128), (8, .anewarray 9), (11, .putfield 11), (14, .aload_n 0), (15, .bipush 16), (17, .anewarray 15), (20, .putfield 17), (23, .aload_n 0), (24, .iconst 4), (25, .anewarray 21), (28, .putfield 23), (31, .aload_n 0), (32, .iconst 4), (33, .anewarray 27), (36, .putfield 29), (39, .iconst 0), (40, .istore_n 1), (41, .iload_n 1), (42, .iconst 4), (43, .if_icmp .ge 22), (46, .aload_n 0), (47, .getfield 29), (50, .iload_n 1), (51, .new 27), (54, .dup), (55, .invokespecial 33), (58, .aastore), (59, .iinc 1 1), (62, .goto (-21)), (65, .new 34), (68, .dup), (69, .iconst 0), (70, .invokespecial 36), (73, .astore_n 1), (74, .new 15), (77, .dup), (78, .bipush 16), (80, .invokespecial 39), (83, .astore_n 2), (84, .aload_n 2), (85, .aload_n 1), (86, .putfield 40), (89, .aload_n 2), (90, .iconst 3), (91, .putfield 44), (94, .aload_n 0), (95, .getfield 17), (98, .aload_n 2), (99, .getfield 48), (102, .bipush 8), (104, .idiv), (105, .aload_n 2), (106, .aastore), (107, .aload_n 0), (108, .aload_n 2), (109, .invokevirtual 51), (112, .aload_n 0), (113, .new 9), (116, .dup), (117, .aload_n 1), (118, .bipush 7), (120, .iconst 0), (121, .aconst_null), (122, .invokespecial 55), (125, .iconst 0), (126, .invokevirtual 58), (129, .aload_n 0), (130, .new 9), (133, .dup), (134, .aload_n 2), (135, .bipush 7), (137, .iconst 0), (138, .aconst_null), (139, .invokespecial 55), (142, .iconst 1), (143, .invokevirtual 58), (146, .aload_n 0), (147, .new 9), (150, .dup), (151, .new 62), (154, .dup), (155, .bipush 32), (157, .bipush 32), (159, .invokespecial 64), (162, .bipush 7), (164, .iconst 0), (165, .aconst_null), (166, .invokespecial 55), (169, .iconst 2), (170, .invokevirtual 58), (173, .aload_n 0), (174, .new 9), (177, .dup), (178, .new 62), (181, .dup), (182, .bipush 64), (184, .bipush 64), (186, .invokespecial 64), (189, .bipush 7), (191, .iconst 0), (192, .aconst_null), (193, .invokespecial 55), (196, .iconst 3), (197, .invokevirtual 58), (200, .return_)]
/-- 1: CapTreeKernel$ThreadLine.<init>()V -/
def x_l1 : List (Nat × Instr) := [(0, .aload_n 0), (1, .invokespecial 1), (4, .return_)]
/-- 2: CapTreeKernel$Table.<init>(I)V -/
def x_l2 : List (Nat × Instr) := [(0, .aload_n 0), (1, .iconst 1), (2, .iload_n 1), (3, .invokespecial 3), (6, .return_)]
/-- 3: CapTreeKernel$Thing.<init>(II)V -/
def x_l3 : List (Nat × Instr) := [(0, .aload_n 0), (1, .invokespecial 1), (4, .aload_n 0), (5, .iload_n 1), (6, .putfield 7), (9, .aload_n 0), (10, .iload_n 2), (11, .putfield 13), (14, .return_)]
/-- 4: CapTreeKernel$KernelThread.<init>(I)V -/
def x_l4 : List (Nat × Instr) := [(0, .aload_n 0), (1, .iconst 2), (2, .iload_n 1), (3, .invokespecial 3), (6, .aload_n 0), (7, .iconst 1), (8, .putfield 9), (11, .return_)]
/-- 5: CapTreeKernel.becomeReady(LCapTreeKernel$KernelThread;)V -/
def x_l5 : List (Nat × Instr) := [(0, .aload_n 1), (1, .invokestatic 293), (4, .aload_n 1), (5, .iconst 2), (6, .putfield 158), (9, .aload_n 1), (10, .iconst 3), (11, .putfield 237), (14, .aload_n 1), (15, .aload_n 0), (16, .getfield 29), (19, .aload_n 1), (20, .getfield 44), (23, .aaload), (24, .invokestatic 318), (27, .return_)]
/-- 6: CapTreeKernel.leaveLine(LCapTreeKernel$KernelThread;)V -/
def x_l6 : List (Nat × Instr) := [(0, .aload_n 0), (1, .getfield 311), (4, .astore_n 1), (5, .aload_n 1), (6, .ifnonnull 4), (9, .return_), (10, .aconst_null), (11, .astore_n 2), (12, .aload_n 1), (13, .getfield 314), (16, .astore_n 3), (17, .aload_n 3), (18, .ifnull 18), (21, .aload_n 3), (22, .aload_n 0), (23, .if_acmp .eq 13), (26, .aload_n 3), (27, .astore_n 2), (28, .aload_n 3), (29, .getfield 325), (32, .astore_n 3), (33, .goto (-16)), (36, .aload_n 2), (37, .ifnonnull 14), (40, .aload_n 1), (41, .aload_n 0), (42, .getfield 325), (45, .putfield 314), (48, .goto 11), (51, .aload_n 2), (52, .aload_n 0), (53, .getfield 325), (56, .putfield 325), (59, .aload_n 1), (60, .getfield 322), (63, .aload_n 0), (64, .if_acmp .ne 8), (67, .aload_n 1), (68, .aload_n 2), (69, .putfield 322), (72, .aload_n 0), (73, .aconst_null), (74, .putfield 325), (77, .aload_n 0), (78, .aconst_null), (79, .putfield 311), (82, .return_)]
/-- 7: CapTreeKernel.joinLine(LCapTreeKernel$KernelThread;LCapTreeKernel$ThreadLine;)V -/
def x_l7 : List (Nat × Instr) := [(0, .aload_n 1), (1, .getfield 322), (4, .ifnonnull 11), (7, .aload_n 1), (8, .aload_n 0), (9, .putfield 314), (12, .goto 11), (15, .aload_n 1), (16, .getfield 322), (19, .aload_n 0), (20, .putfield 325), (23, .aload_n 1), (24, .aload_n 0), (25, .putfield 322), (28, .aload_n 0), (29, .aload_n 1), (30, .putfield 311), (33, .return_)]
/-- 8: CapTreeKernel$Capability.<init>(LCapTreeKernel$Thing;IILCapTreeKernel$Capability;)V -/
def x_l8 : List (Nat × Instr) := [(0, .aload_n 0), (1, .invokespecial 1), (4, .aload_n 0), (5, .aload_n 1), (6, .putfield 7), (9, .aload_n 0), (10, .iload_n 2), (11, .putfield 13), (14, .aload_n 0), (15, .iload_n 3), (16, .putfield 17), (19, .aload_n 0), (20, .aload 4), (22, .putfield 20), (25, .return_)]
/-- 9: CapTreeKernel.put(LCapTreeKernel$Capability;I)V -/
def x_l9 : List (Nat × Instr) := [(0, .aload_n 0), (1, .getfield 11), (4, .iload_n 2), (5, .aload_n 1), (6, .aastore), (7, .aload_n 1), (8, .iload_n 2), (9, .putfield 121), (12, .return_)]
/-- 10: CapTreeKernel$Untyped.<init>(II)V -/
def x_l10 : List (Nat × Instr) := [(0, .aload_n 0), (1, .iconst 0), (2, .iload_n 1), (3, .invokespecial 3), (6, .aload_n 0), (7, .iload_n 2), (8, .putfield 9), (11, .return_)]
/-- 11: CapTreeKernel.retype(IIII)I -/
def x_l11 : List (Nat × Instr) := [(0, .aload_n 0), (1, .invokevirtual 67), (4, .astore 5), (6, .aload 5), (8, .ifnonnull 6), (11, .bipush 8), (13, .ireturn), (14, .aload_n 0), (15, .aload 5), (17, .iload_n 1), (18, .invokevirtual 71), (21, .astore 6), (23, .aload 6), (25, .ifnull 28), (28, .aload 6), (30, .getfield 75), (33, .astore 8), (35, .aload 8), (37, .instanceof 62), (40, .ifCond .eq 13), (43, .aload 8), (45, .checkcast 62), (48, .astore 7), (50, .goto 5), (53, .iconst 1), (54, .ireturn), (55, .iload_n 2), (56, .ifCond .lt 9), (59, .iload_n 2), (60, .bipush 7), (62, .if_icmp .le 5), (65, .iconst 4), (66, .ireturn), (67, .iload_n 2), (68, .ifCond .ne 16), (71, .iload_n 3), (72, .iconst 1), (73, .if_icmp .lt 9), (76, .iload_n 3), (77, .bipush 6), (79, .if_icmp .le 5), (82, .iconst 4), (83, .ireturn), (84, .aload_n 0), (85, .aload 5), (87, .iload 4), (89, .invokevirtual 79), (92, .istore 8), (94, .aload_n 0), (95, .iload 8), (97, .invokevirtual 83), (100, .ifCond .ne 5), (103, .iconst 3), (104, .ireturn), (105, .iload_n 2), (106, .ifCond .ne 9), (109, .iconst 1), (110, .iload_n 3), (111, .ishl), (112, .goto 8), (115, .getstatic 87), (118, .iload_n 2), (119, .iaload), (120, .istore 9), (122, .aload_n 0), (123, .aload 6), (125, .aload 7), (127, .invokevirtual 91), (130, .iload 9), (132, .invokestatic 95), (135, .istore 10), (137, .iload 10), (139, .iload 9), (141, .iadd), (142, .aload 7), (144, .getfield 99), (147, .aload 7), (149, .getfield 100), (152, .iadd), (153, .if_icmp .le 5), (156, .iconst 5), (157, .ireturn), (158, .aload 7), (160, .iload 10), (162, .iload 9), (164, .iadd), (165, .putfield 103), (168, .aload_n 0), (169, .new 9), (172, .dup), (173, .aload_n 0), (174, .iload_n 2), (175, .iload 10), (177, .iload 9), (179, .invokevirtual 106), (182, .bipush 7), (184, .iconst 0), (185, .aload 6), (187, .invokespecial 55), (190, .iload 8), (192, .invokevirtual 58), (195, .iconst 0), (196, .ireturn)]
/-- 12: CapTreeKernel.currentThread()LCapTreeKernel$KernelThread; -/
def x_l12 : List (Nat × Instr) := [(0, .iconst 3), (1, .istore_n 1), (2, .iload_n 1), (3, .ifCond .lt 31), (6, .aload_n 0), (7, .getfield 29), (10, .iload_n 1), (11, .aaload), (12, .getfield 314), (15, .ifnull 13), (18, .aload_n 0), (19, .getfield 29), (22, .iload_n 1), (23, .aaload), (24, .getfield 314), (27, .areturn), (28, .iinc 1 (-1)), (31, .goto (-29)), (34, .aconst_null), (35, .areturn)]
/-- 13: CapTreeKernel.capabilityAt(LCapTreeKernel$KernelThread;I)LCapTreeKernel$Capability; -/
def x_l13 : List (Nat × Instr) := [(0, .aload_n 0), (1, .aload_n 1), (2, .iload_n 2), (3, .invokevirtual 79), (6, .istore_n 3), (7, .iload_n 3), (8, .iconst (-1)), (9, .if_icmp .ne 7), (12, .aconst_null), (13, .goto 9), (16, .aload_n 0), (17, .getfield 11), (20, .iload_n 3), (21, .aaload), (22, .areturn)]
/-- 14: CapTreeKernel.placeOf(LCapTreeKernel$KernelThread;I)I -/
def x_l14 : List (Nat × Instr) := [(0, .aload_n 1), (1, .getfield 40), (4, .ifnull 14), (7, .iload_n 2), (8, .ifCond .lt 10), (11, .iload_n 2), (12, .sipush 271), (15, .if_icmp .le 5), (18, .iconst (-1)), (19, .ireturn), (20, .iload_n 2), (21, .bipush 16), (23, .if_icmp .ge 13), (26, .aload_n 1), (27, .getfield 40), (30, .getfield 274), (33, .iload_n 2), (34, .iadd), (35, .ireturn), (36, .aload_n 0), (37, .getfield 11), (40, .aload_n 1), (41, .getfield 40), (44, .getfield 274), (47, .iload_n 2), (48, .bipush 16), (50, .idiv), (51, .iadd), (52, .iconst 1), (53, .isub), (54, .aaload), (55, .astore_n 3), (56, .aload_n 3), (57, .ifnull 14), (60, .aload_n 3), (61, .getfield 75), (64, .getfield 110), (67, .iconst 1), (68, .if_icmp .eq 5), (71, .iconst (-1)), (72, .ireturn), (73, .aload_n 3), (74, .getfield 75), (77, .getfield 244), (80, .iload_n 2), (81, .bipush 16), (83, .irem), (84, .iadd), (85, .ireturn)]
/-- 15: CapTreeKernel.isEmptySlot(I)Z -/
def x_l15 : List (Nat × Instr) := [(0, .iload_n 1), (1, .iconst (-1)), (2, .if_icmp .eq 16), (5, .aload_n 0), (6, .getfield 11), (9, .iload_n 1), (10, .aaload), (11, .ifnonnull 7), (14, .iconst 1), (15, .goto 4), (18, .iconst 0), (19, .ireturn)]
/-- 16: CapTreeKernel.freePoint(LCapTreeKernel$Capability;LCapTreeKernel$Untyped;)I -/
def x_l16 : List (Nat × Instr) := [(0, .aload_n 0), (1, .aload_n 1), (2, .invokevirtual 245), (5, .ifCond .ne 10), (8, .aload_n 2), (9, .getfield 99), (12, .goto 7), (15, .aload_n 2), (16, .getfield 103), (19, .ireturn)]
/-- 17: CapTreeKernel.childrenOf(LCapTreeKernel$Capability;)I -/
def x_l17 : List (Nat × Instr) := [(0, .iconst 0), (1, .istore_n 2), (2, .iconst 0), (3, .istore_n 3), (4, .iload_n 3), (5, .sipush 128), (8, .if_icmp .ge 34), (11, .aload_n 0), (12, .getfield 11), (15, .iload_n 3), (16, .aaload), (17, .astore 4), (19, .aload 4), (21, .ifnull 15), (24, .aload 4), (26, .getfield 249), (29, .aload_n 1), (30, .if_acmp .ne 6), (33, .iinc 2 1), (36, .iinc 3 1), (39, .goto (-35)), (42, .iload_n 2), (43, .ireturn)]
/-- 18: CapTreeKernel.roundUp(II)I -/
def x_l18 : List (Nat × Instr) := [(0, .iload_n 0), (1, .iload_n 1), (2, .iadd), (3, .iconst 1), (4, .isub), (5, .iload_n 1), (6, .idiv), (7, .iload_n 1), (8, .imul), (9, .ireturn)]
/-- 19: CapTreeKernel.makeThing(III)LCapTreeKernel$Thing; -/
def x_l19 : List (Nat × Instr) := [(0, .iload_n 1), (1, .tableswitch 122 0 6 #[43, 53, 62, 86, 95, 104, 113]), (44, .new 62), (47, .dup), (48, .iload_n 2), (49, .iload_n 3), (50, .invokespecial 64), (53, .areturn), (54, .new 34), (57, .dup), (58, .iload_n 2), (59, .invokespecial 36), (62, .areturn), (63, .new 15), (66, .dup), (67, .iload_n 2), (68, .invokespecial 39), (71, .astore 4), (73, .aload_n 0), (74, .getfield 17), (77, .iload_n 2), (78, .bipush 8), (80, .idiv), (81, .aload 4), (83, .aastore), (84, .aload 4), (86, .areturn), (87, .new 161), (90, .dup), (91, .iload_n 2), (92, .invokespecial 275), (95, .areturn), (96, .new 21), (99, .dup), (100, .iload_n 2), (101, .invokespecial 276), (104, .areturn), (105, .new 212), (108, .dup), (109, .iload_n 2), (110, .invokespecial 277), (113, .areturn), (114, .new 205), (117, .dup), (118, .iload_n 2), (119, .invokespecial 278), (122, .areturn), (123, .new 279), (126, .dup), (127, .iload_n 2), (128, .invokespecial 281), (131, .areturn)]
/-- 20: CapTreeKernel$Gate.<init>(I)V -/
def x_l20 : List (Nat × Instr) := [(0, .aload_n 0), (1, .iconst 3), (2, .iload_n 1), (3, .invokespecial 3), (6, .aload_n 0), (7, .new 9), (10, .dup), (11, .invokespecial 11), (14, .putfield 14), (17, .return_)]
/-- 21: CapTreeKernel$Bell.<init>(I)V -/
def x_l21 : List (Nat × Instr) := [(0, .aload_n 0), (1, .iconst 4), (2, .iload_n 1), (3, .invokespecial 3), (6, .aload_n 0), (7, .new 9), (10, .dup), (11, .invokespecial 11), (14, .putfield 14), (17, .return_)]
/-- 22: CapTreeKernel$Space.<init>(I)V -/
def x_l22 : List (Nat × Instr) := [(0, .aload_n 0), (1, .iconst 5), (2, .iload_n 1), (3, .invokespecial 3), (6, .aload_n 0), (7, .iconst 4), (8, .anewarray 9), (11, .putfield 11), (14, .return_)]
/-- 23: CapTreeKernel$Leaf.<init>(I)V -/
def x_l23 : List (Nat × Instr) := [(0, .aload_n 0), (1, .bipush 6), (3, .iload_n 1), (4, .invokespecial 3), (7, .aload_n 0), (8, .iconst 4), (9, .anewarray 9), (12, .putfield 11), (15, .return_)]
/-- 24: CapTreeKernel$Frame.<init>(I)V -/
def x_l24 : List (Nat × Instr) := [(0, .aload_n 0), (1, .bipush 7), (3, .iload_n 1), (4, .invokespecial 3), (7, .return_)]
/-- 25: CapTreeKernel.copy(IIII)I -/
def x_l25 : List (Nat × Instr) := [(0, .aload_n 0), (1, .invokevirtual 67), (4, .astore 5), (6, .aload 5), (8, .ifnonnull 6), (11, .bipush 8), (13, .ireturn), (14, .aload_n 0), (15, .aload 5), (17, .iload_n 1), (18, .invokevirtual 71), (21, .astore 6), (23, .aload 6), (25, .ifnonnull 5), (28, .iconst 1), (29, .ireturn), (30, .aload 6), (32, .getfield 75), (35, .getfield 110), (38, .ifCond .ne 5), (41, .iconst 2), (42, .ireturn), (43, .iload_n 3), (44, .ifCond .lt 22), (47, .iload_n 3), (48, .bipush 7), (50, .if_icmp .gt 16), (53, .iload 4), (55, .ifCond .lt 11), (58, .iload 4), (60, .sipush 255), (63, .if_icmp .le 5), (66, .iconst 4), (67, .ireturn), (68, .aload_n 0), (69, .aload 5), (71, .iload_n 2), (72, .invokevirtual 79), (75, .istore 7), (77, .aload_n 0), (78, .iload 7), (80, .invokevirtual 83), (83, .ifCond .ne 5), (86, .iconst 3), (87, .ireturn), (88, .aload 6), (90, .getfield 75), (93, .getfield 110), (96, .istore 8), (98, .aload 6), (100, .getfield 115), (103, .ifCond .ne 19), (106, .iload 8), (108, .iconst 3), (109, .if_icmp .eq 9), (112, .iload 8), (114, .iconst 4), (115, .if_icmp .ne 7), (118, .iconst 1), (119, .goto 4), (122, .iconst 0), (123, .istore 9), (125, .iload 9), (127, .ifCond .eq 8), (130, .iload 4), (132, .goto 8), (135, .aload 6), (137, .getfield 115), (140, .istore 10), (142, .aload_n 0), (143, .new 9), (146, .dup), (147, .aload 6), (149, .getfield 75), (152, .aload 6), (154, .getfield 118), (157, .iload_n 3), (158, .iand), (159, .iload 10), (161, .aload 6), (163, .invokespecial 55), (166, .iload 7), (168, .invokevirtual 58), (171, .iconst 0), (172, .ireturn)]
/-- 26: CapTreeKernel.move(II)I -/
def x_l26 : List (Nat × Instr) := [(0, .aload_n 0), (1, .invokevirtual 67), (4, .astore_n 3), (5, .aload_n 3), (6, .ifnonnull 6), (9, .bipush 8), (11, .ireturn), (12, .aload_n 0), (13, .aload_n 3), (14, .iload_n 1), (15, .invokevirtual 71), (18, .astore 4), (20, .aload 4), (22, .ifnonnull 5), (25, .iconst 1), (26, .ireturn), (27, .aload_n 0), (28, .aload_n 3), (29, .iload_n 2), (30, .invokevirtual 79), (33, .istore 5), (35, .aload_n 0), (36, .iload 5), (38, .invokevirtual 83), (41, .ifCond .ne 5), (44, .iconst 3), (45, .ireturn), (46, .aload_n 0), (47, .getfield 11), (50, .aload 4), (52, .getfield 121), (55, .aconst_null), (56, .aastore), (57, .aload_n 0), (58, .aload 4), (60, .iload 5), (62, .invokevirtual 58), (65, .iconst 0), (66, .ireturn)]
/-- 27: CapTreeKernel.delete(I)I -/
def x_l27 : List (Nat × Instr) := [(0, .aload_n 0), (1, .invokevirtual 67), (4, .astore_n 2), (5, .aload_n 2), (6, .ifnonnull 6), (9, .bipush 8), (11, .ireturn), (12, .aload_n 0), (13, .aload_n 2), (14, .iload_n 1), (15, .invokevirtual 71), (18, .astore_n 3), (19, .aload_n 3), (20, .ifnonnull 5), (23, .iconst 1), (24, .ireturn), (25, .aload_n 3), (26, .iconst 1), (27, .putfield 124), (30, .aload_n 0), (31, .invokevirtual 128), (34, .iconst 0), (35, .ireturn)]
/-- 28: CapTreeKernel.removeDoomed()V -/
def x_l28 : List (Nat × Instr) := [(0, .iconst 1), (1, .istore_n 1), (2, .iconst 0), (3, .istore_n 2), (4, .iload_n 2), (5, .sipush 128), (8, .if_icmp .gt 59), (11, .iload_n 1), (12, .ifCond .eq 55), (15, .iconst 0), (16, .istore_n 1), (17, .iconst 0), (18, .istore_n 3), (19, .iload_n 3), (20, .sipush 128), (23, .if_icmp .ge 38), (26, .aload_n 0), (27, .getfield 11), (30, .iload_n 3), (31, .aaload), (32, .astore 4), (34, .aload 4), (36, .ifnull 19), (39, .aload 4), (41, .getfield 124), (44, .ifCond .eq 11), (47, .aload_n 0), (48, .aload 4), (50, .invokevirtual 282), (53, .iconst 1), (54, .istore_n 1), (55, .iinc 3 1), (58, .goto (-39)), (61, .iinc 2 1), (64, .goto (-60)), (67, .return_)]
/-- 29: CapTreeKernel.removeOne(LCapTreeKernel$Capability;)V -/
def x_l29 : List (Nat × Instr) := [(0, .aload_n 0), (1, .getfield 11), (4, .aload_n 1), (5, .getfield 121), (8, .aconst_null), (9, .aastore), (10, .iconst 0), (11, .istore_n 2), (12, .iload_n 2), (13, .sipush 128), (16, .if_icmp .ge 36), (19, .aload_n 0), (20, .getfield 11), (23, .iload_n 2), (24, .aaload), (25, .astore_n 3), (26, .aload_n 3), (27, .ifnull 19), (30, .aload_n 3), (31, .getfield 249), (34, .aload_n 1), (35, .if_acmp .ne 11), (38, .aload_n 3), (39, .aload_n 1), (40, .getfield 249), (43, .putfield 249), (46, .iinc 2 1), (49, .goto (-37)), (52, .aload_n 1), (53, .invokestatic 229), (56, .aload_n 0), (57, .aload_n 1), (58, .getfield 75), (61, .invokevirtual 259), (64, .ifCond .ne 11), (67, .aload_n 0), (68, .aload_n 1), (69, .getfield 75), (72, .invokevirtual 285), (75, .return_)]
/-- 30: CapTreeKernel.leaveLeaf(LCapTreeKernel$Capability;)V -/
def x_l30 : List (Nat × Instr) := [(0, .aload_n 0), (1, .getfield 336), (4, .ifnull 21), (7, .aload_n 0), (8, .getfield 336), (11, .getfield 271), (14, .aload_n 0), (15, .getfield 340), (18, .aconst_null), (19, .aastore), (20, .aload_n 0), (21, .aconst_null), (22, .putfield 336), (25, .return_)]
/-- 31: CapTreeKernel.capabilitiesFor(LCapTreeKernel$Thing;)I -/
def x_l31 : List (Nat × Instr) := [(0, .iconst 0), (1, .istore_n 2), (2, .iconst 0), (3, .istore_n 3), (4, .iload_n 3), (5, .sipush 128), (8, .if_icmp .ge 34), (11, .aload_n 0), (12, .getfield 11), (15, .iload_n 3), (16, .aaload), (17, .astore 4), (19, .aload 4), (21, .ifnull 15), (24, .aload 4), (26, .getfield 75), (29, .aload_n 1), (30, .if_acmp .ne 6), (33, .iinc 2 1), (36, .iinc 3 1), (39, .goto (-35)), (42, .iload_n 2), (43, .ireturn)]
/-- 32: CapTreeKernel.destroy(LCapTreeKernel$Thing;)V -/
def x_l32 : List (Nat × Instr) := [(0, .aload_n 1), (1, .instanceof 34), (4, .ifCond .eq 16), (7, .aload_n 1), (8, .checkcast 34), (11, .astore_n 2), (12, .aload_n 0), (13, .aload_n 2), (14, .invokevirtual 289), (17, .goto 131), (20, .aload_n 1), (21, .instanceof 15), (24, .ifCond .eq 28), (27, .aload_n 1), (28, .checkcast 15), (31, .astore_n 3), (32, .aload_n 3), (33, .invokestatic 293), (36, .aload_n 0), (37, .getfield 17), (40, .aload_n 3), (41, .getfield 48), (44, .bipush 8), (46, .idiv), (47, .aconst_null), (48, .aastore), (49, .goto 99), (52, .aload_n 1), (53, .instanceof 161), (56, .ifCond .eq 21), (59, .aload_n 1), (60, .checkcast 161), (63, .astore 4), (65, .aload_n 0), (66, .aload 4), (68, .getfield 163), (71, .invokevirtual 296), (74, .goto 74), (77, .aload_n 1), (78, .instanceof 21), (81, .ifCond .eq 27), (84, .aload_n 1), (85, .checkcast 21), (88, .astore 5), (90, .aload_n 0), (91, .aload 5), (93, .getfield 201), (96, .invokevirtual 296), (99, .aload_n 0), (100, .aload 5), (102, .invokevirtual 300), (105, .goto 43), (108, .aload_n 1), (109, .instanceof 212), (112, .ifCond .eq 18), (115, .aload_n 1), (116, .checkcast 212), (119, .astore 6), (121, .aload_n 0), (122, .aload 6), (124, .invokevirtual 304), (127, .goto 21), (130, .aload_n 1), (131, .instanceof 205), (134, .ifCond .eq 14), (137, .aload_n 1), (138, .checkcast 205), (141, .astore 7), (143, .aload 7), (145, .invokestatic 308), (148, .return_)]
/-- 33: CapTreeKernel.destroyTable(LCapTreeKernel$Table;)V -/
def x_l33 : List (Nat × Instr) := [(0, .iconst 0), (1, .istore_n 2), (2, .iload_n 2), (3, .bipush 16), (5, .if_icmp .ge 30), (8, .aload_n 0), (9, .getfield 11), (12, .aload_n 1), (13, .getfield 274), (16, .iload_n 2), (17, .iadd), (18, .aaload), (19, .astore_n 3), (20, .aload_n 3), (21, .ifnull 8), (24, .aload_n 3), (25, .iconst 1), (26, .putfield 124), (29, .iinc 2 1), (32, .goto (-30)), (35, .iconst 0), (36, .istore_n 2), (37, .iload_n 2), (38, .bipush 16), (40, .if_icmp .ge 33), (43, .aload_n 0), (44, .getfield 17), (47, .iload_n 2), (48, .aaload), (49, .astore_n 3), (50, .aload_n 3), (51, .ifnull 16), (54, .aload_n 3), (55, .getfield 40), (58, .aload_n 1), (59, .if_acmp .ne 8), (62, .aload_n 3), (63, .aconst_null), (64, .putfield 40), (67, .iinc 2 1), (70, .goto (-33)), (73, .return_)]
/-- 34: CapTreeKernel.stopAllAt(LCapTreeKernel$ThreadLine;)V -/
def x_l34 : List (Nat × Instr) := [(0, .iconst 0), (1, .istore_n 2), (2, .iload_n 2), (3, .bipush 16), (5, .if_icmp .ge 32), (8, .aload_n 0), (9, .getfield 17), (12, .iload_n 2), (13, .aaload), (14, .astore_n 3), (15, .aload_n 3), (16, .ifnull 15), (19, .aload_n 3), (20, .getfield 311), (23, .aload_n 1), (24, .if_acmp .ne 7), (27, .aload_n 3), (28, .invokestatic 155), (31, .iinc 2 1), (34, .goto (-32)), (37, .return_)]
/-- 35: CapTreeKernel.becomeStopped(LCapTreeKernel$KernelThread;)V -/
def x_l35 : List (Nat × Instr) := [(0, .aload_n 0), (1, .invokestatic 293), (4, .aload_n 0), (5, .iconst 1), (6, .putfield 158), (9, .return_)]
/-- 36: CapTreeKernel.unbindAll(LCapTreeKernel$Bell;)V -/
def x_l36 : List (Nat × Instr) := [(0, .iconst 0), (1, .istore_n 2), (2, .iload_n 2), (3, .iconst 4), (4, .if_icmp .ge 26), (7, .aload_n 0), (8, .getfield 23), (11, .iload_n 2), (12, .aaload), (13, .aload_n 1), (14, .if_acmp .ne 10), (17, .aload_n 0), (18, .getfield 23), (21, .iload_n 2), (22, .aconst_null), (23, .aastore), (24, .iinc 2 1), (27, .goto (-25)), (30, .return_)]
/-- 37: CapTreeKernel.destroySpace(LCapTreeKernel$Space;)V -/
def x_l37 : List (Nat × Instr) := [(0, .iconst 0), (1, .istore_n 2), (2, .iload_n 2), (3, .bipush 16), (5, .if_icmp .ge 33), (8, .aload_n 0), (9, .getfield 17), (12, .iload_n 2), (13, .aaload), (14, .astore_n 3), (15, .aload_n 3), (16, .ifnull 16), (19, .aload_n 3), (20, .getfield 147), (23, .aload_n 1), (24, .if_acmp .ne 8), (27, .aload_n 3), (28, .aconst_null), (29, .putfield 147), (32, .iinc 2 1), (35, .goto (-33)), (38, .iconst 0), (39, .istore_n 2), (40, .iload_n 2), (41, .iconst 4), (42, .if_icmp .ge 24), (45, .aload_n 1), (46, .getfield 211), (49, .iload_n 2), (50, .aaload), (51, .astore_n 3), (52, .aload_n 3), (53, .ifnull 7), (56, .aload_n 3), (57, .invokestatic 225), (60, .iinc 2 1), (63, .goto (-23)), (66, .return_)]
/-- 38: CapTreeKernel.leaveSpace(LCapTreeKernel$Leaf;)V -/
def x_l38 : List (Nat × Instr) := [(0, .aload_n 0), (1, .getfield 332), (4, .ifnull 21), (7, .aload_n 0), (8, .getfield 332), (11, .getfield 211), (14, .aload_n 0), (15, .getfield 333), (18, .aconst_null), (19, .aastore), (20, .aload_n 0), (21, .aconst_null), (22, .putfield 332), (25, .return_)]
/-- 39: CapTreeKernel.destroyLeaf(LCapTreeKernel$Leaf;)V -/
def x_l39 : List (Nat × Instr) := [(0, .aload_n 0), (1, .invokestatic 225), (4, .iconst 0), (5, .istore_n 1), (6, .iload_n 1), (7, .iconst 4), (8, .if_icmp .ge 24), (11, .aload_n 0), (12, .getfield 271), (15, .iload_n 1), (16, .aaload), (17, .astore_n 2), (18, .aload_n 2), (19, .ifnull 7), (22, .aload_n 2), (23, .invokestatic 229), (26, .iinc 1 1), (29, .goto (-23)), (32, .return_)]
/-- 40: CapTreeKernel.revoke(I)I -/
def x_l40 : List (Nat × Instr) := [(0, .aload_n 0), (1, .invokevirtual 67), (4, .astore_n 2), (5, .aload_n 2), (6, .ifnonnull 6), (9, .bipush 8), (11, .ireturn), (12, .aload_n 0), (13, .aload_n 2), (14, .iload_n 1), (15, .invokevirtual 71), (18, .astore_n 3), (19, .aload_n 3), (20, .ifnonnull 5), (23, .iconst 1), (24, .ireturn), (25, .iconst 0), (26, .istore 4), (28, .iload 4), (30, .sipush 128), (33, .if_icmp .ge 38), (36, .aload_n 0), (37, .getfield 11), (40, .iload 4), (42, .aaload), (43, .astore 5), (45, .aload 5), (47, .ifnull 18), (50, .aload 5), (52, .aload_n 3), (53, .invokestatic 131), (56, .ifCond .eq 9), (59, .aload 5), (61, .iconst 1), (62, .putfield 124), (65, .iinc 4 1), (68, .goto (-40)), (71, .aload_n 0), (72, .invokevirtual 128), (75, .iconst 0), (76, .ireturn)]
/-- 41: CapTreeKernel.descendsFrom(LCapTreeKernel$Capability;LCapTreeKernel$Capability;)Z -/
def x_l41 : List (Nat × Instr) := [(0, .aload_n 0), (1, .getfield 249), (4, .astore_n 2), (5, .aload_n 2), (6, .ifnull 18), (9, .aload_n 2), (10, .aload_n 1), (11, .if_acmp .ne 5), (14, .iconst 1), (15, .ireturn), (16, .aload_n 2), (17, .getfield 249), (20, .astore_n 2), (21, .goto (-16)), (24, .iconst 0), (25, .ireturn)]
/-- 42: CapTreeKernel.configure(IIII)I -/
def x_l42 : List (Nat × Instr) := [(0, .aload_n 0), (1, .invokevirtual 67), (4, .astore 5), (6, .aload 5), (8, .ifnonnull 6), (11, .bipush 8), (13, .ireturn), (14, .aload_n 0), (15, .aload 5), (17, .iload_n 1), (18, .invokevirtual 135), (21, .astore 6), (23, .aload 6), (25, .ifnonnull 5), (28, .iconst 1), (29, .ireturn), (30, .aload_n 0), (31, .aload 5), (33, .iload_n 2), (34, .invokevirtual 139), (37, .astore 7), (39, .aload 7), (41, .ifnonnull 10), (44, .iload_n 2), (45, .iconst (-1)), (46, .if_icmp .eq 5), (49, .iconst 1), (50, .ireturn), (51, .aload_n 0), (52, .aload 5), (54, .iload_n 3), (55, .invokevirtual 143), (58, .astore 8), (60, .aload 8), (62, .ifnonnull 10), (65, .iload_n 3), (66, .iconst (-1)), (67, .if_icmp .eq 5), (70, .iconst 1), (71, .ireturn), (72, .iload 4), (74, .ifCond .lt 9), (77, .iload 4), (79, .iconst 4), (80, .if_icmp .lt 5), (83, .iconst 4), (84, .ireturn), (85, .iload 4), (87, .aload 5), (89, .getfield 44), (92, .if_icmp .le 5), (95, .iconst 2), (96, .ireturn), (97, .aload 6), (99, .aload 7), (101, .putfield 40), (104, .aload 6), (106, .aload 8), (108, .putfield 147), (111, .aload_n 0), (112, .aload 6), (114, .iload 4), (116, .invokevirtual 151), (119, .iconst 0), (120, .ireturn)]
/-- 43: CapTreeKernel.threadAt(LCapTreeKernel$KernelThread;I)LCapTreeKernel$KernelThread; -/
def x_l43 : List (Nat × Instr) := [(0, .aload_n 0), (1, .aload_n 1), (2, .iload_n 2), (3, .invokevirtual 71), (6, .astore_n 3), (7, .aload_n 3), (8, .ifnull 29), (11, .aload_n 3), (12, .getfield 75), (15, .astore 5), (17, .aload 5), (19, .instanceof 15), (22, .ifCond .eq 15), (25, .aload 5), (27, .checkcast 15), (30, .astore 4), (32, .aload 4), (34, .goto 4), (37, .aconst_null), (38, .areturn)]
/-- 44: CapTreeKernel.tableAt(LCapTreeKernel$KernelThread;I)LCapTreeKernel$Table; -/
def x_l44 : List (Nat × Instr) := [(0, .aload_n 0), (1, .aload_n 1), (2, .iload_n 2), (3, .invokevirtual 71), (6, .astore_n 3), (7, .aload_n 3), (8, .ifnull 29), (11, .aload_n 3), (12, .getfield 75), (15, .astore 5), (17, .aload 5), (19, .instanceof 34), (22, .ifCond .eq 15), (25, .aload 5), (27, .checkcast 34), (30, .astore 4), (32, .aload 4), (34, .goto 4), (37, .aconst_null), (38, .areturn)]
/-- 45: CapTreeKernel.spaceAt(LCapTreeKernel$KernelThread;I)LCapTreeKernel$Space; -/
def x_l45 : List (Nat × Instr) := [(0, .aload_n 0), (1, .aload_n 1), (2, .iload_n 2), (3, .invokevirtual 71), (6, .astore_n 3), (7, .aload_n 3), (8, .ifnull 29), (11, .aload_n 3), (12, .getfield 75), (15, .astore 5), (17, .aload 5), (19, .instanceof 212), (22, .ifCond .eq 15), (25, .aload 5), (27, .checkcast 212), (30, .astore 4), (32, .aload 4), (34, .goto 4), (37, .aconst_null), (38, .areturn)]
/-- 46: CapTreeKernel.changePriority(LCapTreeKernel$KernelThread;I)V -/
def x_l46 : List (Nat × Instr) := [(0, .iload_n 2), (1, .aload_n 1), (2, .getfield 44), (5, .if_icmp .ne 4), (8, .return_), (9, .aload_n 1), (10, .iload_n 2), (11, .putfield 44), (14, .aload_n 1), (15, .getfield 158), (18, .iconst 2), (19, .if_icmp .ne 17), (22, .aload_n 1), (23, .invokestatic 293), (26, .aload_n 1), (27, .aload_n 0), (28, .getfield 29), (31, .iload_n 2), (32, .aaload), (33, .invokestatic 318), (36, .return_)]
/-- 47: CapTreeKernel.run(IZ)I -/
def x_l47 : List (Nat × Instr) := [(0, .aload_n 0), (1, .invokevirtual 67), (4, .astore_n 3), (5, .aload_n 3), (6, .ifnonnull 6), (9, .bipush 8), (11, .ireturn), (12, .aload_n 0), (13, .aload_n 3), (14, .iload_n 1), (15, .invokevirtual 135), (18, .astore 4), (20, .aload 4), (22, .ifnonnull 5), (25, .iconst 1), (26, .ireturn), (27, .iload_n 2), (28, .ifCond .ne 11), (31, .aload 4), (33, .invokestatic 155), (36, .goto 18), (39, .aload 4), (41, .getfield 158), (44, .iconst 1), (45, .if_icmp .ne 9), (48, .aload_n 0), (49, .aload 4), (51, .invokevirtual 51), (54, .iconst 0), (55, .ireturn)]
/-- 48: CapTreeKernel.send(IIIZ)I -/
def x_l48 : List (Nat × Instr) := [(0, .aload_n 0), (1, .invokevirtual 67), (4, .astore 5), (6, .aload 5), (8, .ifnonnull 6), (11, .bipush 8), (13, .ireturn), (14, .aload_n 0), (15, .aload 5), (17, .iload_n 1), (18, .invokevirtual 71), (21, .astore 6), (23, .aload 6), (25, .ifnull 28), (28, .aload 6), (30, .getfield 75), (33, .astore 8), (35, .aload 8), (37, .instanceof 161), (40, .ifCond .eq 13), (43, .aload 8), (45, .checkcast 161), (48, .astore 7), (50, .goto 5), (53, .iconst 1), (54, .ireturn), (55, .aload 6), (57, .getfield 118), (60, .iconst 2), (61, .iand), (62, .ifCond .ne 5), (65, .iconst 2), (66, .ireturn), (67, .aload 7), (69, .getfield 163), (72, .iconst 4), (73, .invokestatic 167), (76, .astore 8), (78, .aload 8), (80, .ifnonnull 11), (83, .iload 4), (85, .ifCond .ne 6), (88, .bipush 6), (90, .ireturn), (91, .aload 5), (93, .iload_n 2), (94, .putfield 171), (97, .aload 5), (99, .aload 6), (101, .getfield 115), (104, .putfield 174), (107, .aload 5), (109, .aload 6), (111, .getfield 118), (114, .iconst 4), (115, .iand), (116, .ifCond .eq 7), (119, .iconst 1), (120, .goto 4), (123, .iconst 0), (124, .putfield 177), (127, .aload 5), (129, .iload_n 3), (130, .putfield 180), (133, .aload 8), (135, .ifnonnull 17), (138, .aload 5), (140, .iconst 3), (141, .aload 7), (143, .getfield 163), (146, .invokestatic 183), (149, .bipush 10), (151, .ireturn), (152, .aload_n 0), (153, .aload 5), (155, .aload 8), (157, .invokevirtual 187), (160, .aload_n 0), (161, .aload 8), (163, .invokevirtual 51), (166, .iconst 0), (167, .ireturn)]
/-- 49: CapTreeKernel.firstWaiting(LCapTreeKernel$ThreadLine;I)LCapTreeKernel$KernelThread; -/
def x_l49 : List (Nat × Instr) := [(0, .aload_n 0), (1, .getfield 314), (4, .astore_n 2), (5, .aload_n 2), (6, .ifnull 15), (9, .aload_n 2), (10, .getfield 158), (13, .iload_n 1), (14, .if_icmp .ne 7), (17, .aload_n 2), (18, .goto 4), (21, .aconst_null), (22, .areturn)]
/-- 50: CapTreeKernel.becomeWaiting(LCapTreeKernel$KernelThread;ILCapTreeKernel$ThreadLine;)V -/
def x_l50 : List (Nat × Instr) := [(0, .aload_n 0), (1, .invokestatic 293), (4, .aload_n 0), (5, .iload_n 1), (6, .putfield 158), (9, .aload_n 0), (10, .aload_n 2), (11, .invokestatic 318), (14, .return_)]
/-- 51: CapTreeKernel.transfer(LCapTreeKernel$KernelThread;LCapTreeKernel$KernelThread;)V -/
def x_l51 : List (Nat × Instr) := [(0, .aload_n 2), (1, .aload_n 1), (2, .getfield 171), (5, .putfield 266), (8, .aload_n 2), (9, .aload_n 1), (10, .getfield 174), (13, .putfield 267), (16, .aload_n 2), (17, .aload_n 0), (18, .aload_n 1), (19, .aload_n 2), (20, .invokevirtual 328), (23, .ifCond .eq 7), (26, .iconst 1), (27, .goto 4), (30, .iconst 0), (31, .putfield 268), (34, .return_)]
/-- 52: CapTreeKernel.handOver(LCapTreeKernel$KernelThread;LCapTreeKernel$KernelThread;)Z -/
def x_l52 : List (Nat × Instr) := [(0, .aload_n 1), (1, .getfield 177), (4, .ifCond .ne 5), (7, .iconst 0), (8, .ireturn), (9, .aload_n 0), (10, .aload_n 1), (11, .aload_n 1), (12, .getfield 180), (15, .invokevirtual 71), (18, .astore_n 3), (19, .aload_n 3), (20, .ifnull 13), (23, .aload_n 3), (24, .getfield 75), (27, .getfield 110), (30, .ifCond .ne 5), (33, .iconst 0), (34, .ireturn), (35, .aload_n 0), (36, .aload_n 2), (37, .aload_n 2), (38, .getfield 180), (41, .invokevirtual 79), (44, .istore 4), (46, .aload_n 0), (47, .iload 4), (49, .invokevirtual 83), (52, .ifCond .ne 5), (55, .iconst 0), (56, .ireturn), (57, .aload_n 0), (58, .new 9), (61, .dup), (62, .aload_n 3), (63, .getfield 75), (66, .aload_n 3), (67, .getfield 118), (70, .aload_n 3), (71, .getfield 115), (74, .aload_n 3), (75, .invokespecial 55), (78, .iload 4), (80, .invokevirtual 58), (83, .iconst 1), (84, .ireturn)]
/-- 53: CapTreeKernel.receive(IIZ)I -/
def x_l53 : List (Nat × Instr) := [(0, .aload_n 0), (1, .invokevirtual 67), (4, .astore 4), (6, .aload 4), (8, .ifnonnull 6), (11, .bipush 8), (13, .ireturn), (14, .aload_n 0), (15, .aload 4), (17, .iload_n 1), (18, .invokevirtual 71), (21, .astore 5), (23, .aload 5), (25, .ifnull 28), (28, .aload 5), (30, .getfield 75), (33, .astore 7), (35, .aload 7), (37, .instanceof 161), (40, .ifCond .eq 13), (43, .aload 7), (45, .checkcast 161), (48, .astore 6), (50, .goto 5), (53, .iconst 1), (54, .ireturn), (55, .aload 5), (57, .getfield 118), (60, .iconst 1), (61, .iand), (62, .ifCond .ne 5), (65, .iconst 2), (66, .ireturn), (67, .aload 6), (69, .getfield 163), (72, .iconst 3), (73, .invokestatic 167), (76, .astore 7), (78, .aload 7), (80, .ifnonnull 10), (83, .iload_n 3), (84, .ifCond .ne 6), (87, .bipush 6), (89, .ireturn), (90, .aload 4), (92, .iload_n 2), (93, .putfield 180), (96, .aload 7), (98, .ifnonnull 17), (101, .aload 4), (103, .iconst 4), (104, .aload 6), (106, .getfield 163), (109, .invokestatic 183), (112, .bipush 10), (114, .ireturn), (115, .aload_n 0), (116, .aload 7), (118, .aload 4), (120, .invokevirtual 187), (123, .aload_n 0), (124, .aload 7), (126, .invokevirtual 51), (129, .iconst 0), (130, .ireturn)]
/-- 54: CapTreeKernel.signal(I)I -/
def x_l54 : List (Nat × Instr) := [(0, .aload_n 0), (1, .invokevirtual 67), (4, .astore_n 2), (5, .aload_n 2), (6, .ifnonnull 6), (9, .bipush 8), (11, .ireturn), (12, .aload_n 0), (13, .aload_n 2), (14, .iload_n 1), (15, .invokevirtual 71), (18, .astore_n 3), (19, .aload_n 3), (20, .ifnull 27), (23, .aload_n 3), (24, .getfield 75), (27, .astore 5), (29, .aload 5), (31, .instanceof 21), (34, .ifCond .eq 13), (37, .aload 5), (39, .checkcast 21), (42, .astore 4), (44, .goto 5), (47, .iconst 1), (48, .ireturn), (49, .aload_n 3), (50, .getfield 118), (53, .iconst 2), (54, .iand), (55, .ifCond .ne 5), (58, .iconst 2), (59, .ireturn), (60, .aload_n 0), (61, .aload 4), (63, .aload_n 3), (64, .getfield 115), (67, .ifCond .ne 9), (70, .sipush 256), (73, .goto 7), (76, .aload_n 3), (77, .getfield 115), (80, .invokevirtual 191), (83, .iconst 0), (84, .ireturn)]
/-- 55: CapTreeKernel.ring(LCapTreeKernel$Bell;I)V -/
def x_l55 : List (Nat × Instr) := [(0, .aload_n 1), (1, .getfield 201), (4, .iconst 5), (5, .invokestatic 167), (8, .astore_n 3), (9, .aload_n 3), (10, .ifnonnull 14), (13, .aload_n 1), (14, .dup), (15, .getfield 195), (18, .iload_n 2), (19, .ior), (20, .putfield 195), (23, .return_), (24, .aload_n 3), (25, .iload_n 2), (26, .invokevirtual 198), (29, .aload_n 0), (30, .aload_n 3), (31, .invokevirtual 51), (34, .return_)]
/-- 56: CapTreeKernel$KernelThread.hear(I)V -/
def x_l56 : List (Nat × Instr) := [(0, .aload_n 0), (1, .iload_n 1), (2, .putfield 15), (5, .aload_n 0), (6, .iconst 0), (7, .putfield 18), (10, .aload_n 0), (11, .iconst 0), (12, .putfield 21), (15, .return_)]
/-- 57: CapTreeKernel.listen(IZ)I -/
def x_l57 : List (Nat × Instr) := [(0, .aload_n 0), (1, .invokevirtual 67), (4, .astore_n 3), (5, .aload_n 3), (6, .ifnonnull 6), (9, .bipush 8), (11, .ireturn), (12, .aload_n 0), (13, .aload_n 3), (14, .iload_n 1), (15, .invokevirtual 71), (18, .astore 4), (20, .aload 4), (22, .ifnull 28), (25, .aload 4), (27, .getfield 75), (30, .astore 6), (32, .aload 6), (34, .instanceof 21), (37, .ifCond .eq 13), (40, .aload 6), (42, .checkcast 21), (45, .astore 5), (47, .goto 5), (50, .iconst 1), (51, .ireturn), (52, .aload 4), (54, .getfield 118), (57, .iconst 1), (58, .iand), (59, .ifCond .ne 5), (62, .iconst 2), (63, .ireturn), (64, .aload 5), (66, .getfield 195), (69, .ifCond .eq 20), (72, .aload_n 3), (73, .aload 5), (75, .getfield 195), (78, .invokevirtual 198), (81, .aload 5), (83, .iconst 0), (84, .putfield 195), (87, .iconst 0), (88, .ireturn), (89, .iload_n 2), (90, .ifCond .ne 6), (93, .bipush 6), (95, .ireturn), (96, .aload_n 3), (97, .iconst 5), (98, .aload 5), (100, .getfield 201), (103, .invokestatic 183), (106, .bipush 10), (108, .ireturn)]
/-- 58: CapTreeKernel.map(III)I -/
def x_l58 : List (Nat × Instr) := [(0, .aload_n 0), (1, .invokevirtual 67), (4, .astore 4), (6, .aload 4), (8, .ifnonnull 6), (11, .bipush 8), (13, .ireturn), (14, .aload_n 0), (15, .aload 4), (17, .iload_n 1), (18, .invokevirtual 202), (21, .astore 5), (23, .aload 5), (25, .ifnonnull 5), (28, .iconst 1), (29, .ireturn), (30, .aload_n 0), (31, .aload 4), (33, .iload_n 2), (34, .invokevirtual 143), (37, .astore 6), (39, .aload 6), (41, .ifnonnull 5), (44, .iconst 1), (45, .ireturn), (46, .iload_n 3), (47, .ifCond .lt 9), (50, .iload_n 3), (51, .bipush 16), (53, .if_icmp .lt 5), (56, .iconst 4), (57, .ireturn), (58, .aload 5), (60, .getfield 75), (63, .astore 8), (65, .aload 8), (67, .instanceof 205), (70, .ifCond .eq 21), (73, .aload 8), (75, .checkcast 205), (78, .astore 7), (80, .aload 7), (82, .aload 6), (84, .iload_n 3), (85, .iconst 4), (86, .idiv), (87, .invokestatic 207), (90, .ireturn), (91, .aload 5), (93, .aload 6), (95, .getfield 211), (98, .iload_n 3), (99, .iconst 4), (100, .idiv), (101, .aaload), (102, .iload_n 3), (103, .iconst 4), (104, .irem), (105, .invokestatic 217), (108, .ireturn)]
/-- 59: CapTreeKernel.mappableAt(LCapTreeKernel$KernelThread;I)LCapTreeKernel$Capability; -/
def x_l59 : List (Nat × Instr) := [(0, .aload_n 0), (1, .aload_n 1), (2, .iload_n 2), (3, .invokevirtual 71), (6, .astore_n 3), (7, .aload_n 3), (8, .ifnull 27), (11, .aload_n 3), (12, .getfield 75), (15, .getfield 110), (18, .bipush 6), (20, .if_icmp .eq 17), (23, .aload_n 3), (24, .getfield 75), (27, .getfield 110), (30, .bipush 7), (32, .if_icmp .eq 5), (35, .aconst_null), (36, .areturn), (37, .aload_n 3), (38, .areturn)]
/-- 60: CapTreeKernel.mapLeaf(LCapTreeKernel$Leaf;LCapTreeKernel$Space;I)I -/
def x_l60 : List (Nat × Instr) := [(0, .aload_n 0), (1, .getfield 332), (4, .ifnonnull 12), (7, .aload_n 1), (8, .getfield 211), (11, .iload_n 2), (12, .aaload), (13, .ifnull 6), (16, .bipush 7), (18, .ireturn), (19, .aload_n 1), (20, .getfield 211), (23, .iload_n 2), (24, .aload_n 0), (25, .aastore), (26, .aload_n 0), (27, .aload_n 1), (28, .putfield 332), (31, .aload_n 0), (32, .iload_n 2), (33, .putfield 333), (36, .iconst 0), (37, .ireturn)]
/-- 61: CapTreeKernel.mapFrame(LCapTreeKernel$Capability;LCapTreeKernel$Leaf;I)I -/
def x_l61 : List (Nat × Instr) := [(0, .aload_n 0), (1, .getfield 336), (4, .ifnonnull 16), (7, .aload_n 1), (8, .ifnull 12), (11, .aload_n 1), (12, .getfield 271), (15, .iload_n 2), (16, .aaload), (17, .ifnull 6), (20, .bipush 7), (22, .ireturn), (23, .aload_n 1), (24, .getfield 271), (27, .iload_n 2), (28, .aload_n 0), (29, .aastore), (30, .aload_n 0), (31, .aload_n 1), (32, .putfield 336), (35, .aload_n 0), (36, .iload_n 2), (37, .putfield 340), (40, .iconst 0), (41, .ireturn)]
/-- 62: CapTreeKernel.unmap(I)I -/
def x_l62 : List (Nat × Instr) := [(0, .aload_n 0), (1, .invokevirtual 67), (4, .astore_n 2), (5, .aload_n 2), (6, .ifnonnull 6), (9, .bipush 8), (11, .ireturn), (12, .aload_n 0), (13, .aload_n 2), (14, .iload_n 1), (15, .invokevirtual 202), (18, .astore_n 3), (19, .aload_n 3), (20, .ifnonnull 5), (23, .iconst 1), (24, .ireturn), (25, .aload_n 3), (26, .invokestatic 221), (29, .ifCond .ne 6), (32, .bipush 7), (34, .ireturn), (35, .aload_n 3), (36, .getfield 75), (39, .astore 5), (41, .aload 5), (43, .instanceof 205), (46, .ifCond .eq 18), (49, .aload 5), (51, .checkcast 205), (54, .astore 4), (56, .aload 4), (58, .invokestatic 225), (61, .goto 7), (64, .aload_n 3), (65, .invokestatic 229), (68, .iconst 0), (69, .ireturn)]
/-- 63: CapTreeKernel.isMapped(LCapTreeKernel$Capability;)Z -/
def x_l63 : List (Nat × Instr) := [(0, .aload_n 0), (1, .getfield 75), (4, .astore_n 2), (5, .aload_n 2), (6, .instanceof 205), (9, .ifCond .eq 23), (12, .aload_n 2), (13, .checkcast 205), (16, .astore_n 1), (17, .aload_n 1), (18, .getfield 332), (21, .ifnull 7), (24, .iconst 1), (25, .goto 19), (28, .iconst 0), (29, .goto 15), (32, .aload_n 0), (33, .getfield 336), (36, .ifnull 7), (39, .iconst 1), (40, .goto 4), (43, .iconst 0), (44, .ireturn)]
/-- 64: CapTreeKernel.bind(II)I -/
def x_l64 : List (Nat × Instr) := [(0, .aload_n 0), (1, .invokevirtual 67), (4, .astore_n 3), (5, .aload_n 3), (6, .ifnonnull 6), (9, .bipush 8), (11, .ireturn), (12, .iload_n 1), (13, .ifCond .lt 8), (16, .iload_n 1), (17, .iconst 4), (18, .if_icmp .lt 5), (21, .iconst 4), (22, .ireturn), (23, .aload_n 0), (24, .aload_n 3), (25, .iload_n 2), (26, .invokevirtual 233), (29, .astore 4), (31, .aload 4), (33, .ifnonnull 10), (36, .iload_n 2), (37, .iconst (-1)), (38, .if_icmp .eq 5), (41, .iconst 1), (42, .ireturn), (43, .aload_n 0), (44, .getfield 23), (47, .iload_n 1), (48, .aload 4), (50, .aastore), (51, .iconst 0), (52, .ireturn)]
/-- 65: CapTreeKernel.bellAt(LCapTreeKernel$KernelThread;I)LCapTreeKernel$Bell; -/
def x_l65 : List (Nat × Instr) := [(0, .aload_n 0), (1, .aload_n 1), (2, .iload_n 2), (3, .invokevirtual 71), (6, .astore_n 3), (7, .aload_n 3), (8, .ifnull 29), (11, .aload_n 3), (12, .getfield 75), (15, .astore 5), (17, .aload 5), (19, .instanceof 21), (22, .ifCond .eq 15), (25, .aload 5), (27, .checkcast 21), (30, .astore 4), (32, .aload 4), (34, .goto 4), (37, .aconst_null), (38, .areturn)]
/-- 66: CapTreeKernel.interrupt(I)I -/
def x_l66 : List (Nat × Instr) := [(0, .iload_n 1), (1, .ifCond .lt 8), (4, .iload_n 1), (5, .iconst 4), (6, .if_icmp .lt 5), (9, .iconst 0), (10, .ireturn), (11, .aload_n 0), (12, .getfield 23), (15, .iload_n 1), (16, .aaload), (17, .astore_n 2), (18, .aload_n 2), (19, .ifnonnull 5), (22, .iconst 0), (23, .ireturn), (24, .aload_n 0), (25, .aload_n 2), (26, .iconst 1), (27, .iload_n 1), (28, .ishl), (29, .invokevirtual 191), (32, .iconst 1), (33, .ireturn)]
/-- 67: CapTreeKernel.tick()I -/
def x_l67 : List (Nat × Instr) := [(0, .aload_n 0), (1, .invokevirtual 67), (4, .astore_n 1), (5, .aload_n 1), (6, .ifnull 25), (9, .aload_n 1), (10, .dup), (11, .getfield 237), (14, .iconst 1), (15, .isub), (16, .putfield 237), (19, .aload_n 1), (20, .getfield 237), (23, .ifCond .ne 8), (26, .aload_n 0), (27, .aload_n 1), (28, .invokevirtual 51), (31, .aload_n 0), (32, .invokevirtual 67), (35, .invokestatic 240), (38, .ireturn)]
/-- 68: CapTreeKernel.unitOf(LCapTreeKernel$Thing;)I -/
def x_l68 : List (Nat × Instr) := [(0, .aload_n 0), (1, .ifnonnull 7), (4, .iconst (-1)), (5, .goto 7), (8, .aload_n 0), (9, .getfield 244), (12, .ireturn)]
/-- 69: CapTreeKernel.current()I -/
def x_l69 : List (Nat × Instr) := [(0, .aload_n 0), (1, .invokevirtual 67), (4, .invokestatic 240), (7, .ireturn)]
/-- 70: CapTreeKernel.slot(III)I -/
def x_l70 : List (Nat × Instr) := [(0, .iload_n 1), (1, .ifCond .lt 27), (4, .iload_n 1), (5, .sipush 128), (8, .if_icmp .ge 20), (11, .iload_n 1), (12, .bipush 16), (14, .irem), (15, .ifCond .ne 13), (18, .iload_n 2), (19, .ifCond .lt 9), (22, .iload_n 2), (23, .bipush 16), (25, .if_icmp .lt 5), (28, .iconst (-1)), (29, .ireturn), (30, .aload_n 0), (31, .getfield 11), (34, .iload_n 1), (35, .iload_n 2), (36, .iadd), (37, .aaload), (38, .astore 4), (40, .aload 4), (42, .ifnonnull 5), (45, .iconst (-1)), (46, .ireturn), (47, .iload_n 3), (48, .tableswitch 111 0 7 #[48, 57, 66, 72, 78, 85, 94, 101]), (96, .aload 4), (98, .getfield 75), (101, .getfield 110), (104, .ireturn), (105, .aload 4), (107, .getfield 75), (110, .getfield 244), (113, .ireturn), (114, .aload 4), (116, .getfield 118), (119, .ireturn), (120, .aload 4), (122, .getfield 115), (125, .ireturn), (126, .aload_n 0), (127, .aload 4), (129, .invokevirtual 245), (132, .ireturn), (133, .aload 4), (135, .getfield 249), (138, .invokestatic 253), (141, .ireturn), (142, .aload_n 0), (143, .aload 4), (145, .invokevirtual 256), (148, .ireturn), (149, .aload_n 0), (150, .aload 4), (152, .getfield 75), (155, .invokevirtual 259), (158, .ireturn), (159, .iconst (-1)), (160, .ireturn)]
/-- 71: CapTreeKernel.whereIs(LCapTreeKernel$Capability;)I -/
def x_l71 : List (Nat × Instr) := [(0, .aload_n 0), (1, .ifnonnull 5), (4, .iconst (-1)), (5, .ireturn), (6, .aload_n 0), (7, .getfield 121), (10, .bipush 16), (12, .irem), (13, .istore_n 1), (14, .bipush 16), (16, .aload_n 0), (17, .getfield 121), (20, .iload_n 1), (21, .isub), (22, .imul), (23, .iload_n 1), (24, .iadd), (25, .ireturn)]
/-- 72: CapTreeKernel.useOf(LCapTreeKernel$Capability;)I -/
def x_l72 : List (Nat × Instr) := [(0, .aload_n 1), (1, .getfield 75), (4, .astore_n 3), (5, .aload_n 3), (6, .instanceof 62), (9, .ifCond .eq 15), (12, .aload_n 3), (13, .checkcast 62), (16, .astore_n 2), (17, .aload_n 0), (18, .aload_n 1), (19, .aload_n 2), (20, .invokevirtual 91), (23, .ireturn), (24, .aload_n 1), (25, .invokestatic 221), (28, .ifCond .eq 7), (31, .iconst 1), (32, .goto 4), (35, .iconst 0), (36, .ireturn)]
/-- 73: CapTreeKernel.thread(II)I -/
def x_l73 : List (Nat × Instr) := [(0, .aload_n 0), (1, .iload_n 1), (2, .invokevirtual 262), (5, .astore_n 3), (6, .aload_n 3), (7, .ifnonnull 5), (10, .iconst (-1)), (11, .ireturn), (12, .iload_n 2), (13, .tableswitch 93 0 7 #[47, 52, 57, 62, 67, 72, 77, 85]), (60, .aload_n 3), (61, .getfield 158), (64, .ireturn), (65, .aload_n 3), (66, .getfield 44), (69, .ireturn), (70, .aload_n 3), (71, .getfield 266), (74, .ireturn), (75, .aload_n 3), (76, .getfield 267), (79, .ireturn), (80, .aload_n 3), (81, .getfield 268), (84, .ireturn), (85, .aload_n 3), (86, .getfield 237), (89, .ireturn), (90, .aload_n 3), (91, .getfield 40), (94, .invokestatic 240), (97, .ireturn), (98, .aload_n 3), (99, .getfield 147), (102, .invokestatic 240), (105, .ireturn), (106, .iconst (-1)), (107, .ireturn)]
/-- 74: CapTreeKernel.threadOfUnit(I)LCapTreeKernel$KernelThread; -/
def x_l74 : List (Nat × Instr) := [(0, .iload_n 1), (1, .ifCond .lt 17), (4, .iload_n 1), (5, .sipush 128), (8, .if_icmp .ge 10), (11, .iload_n 1), (12, .bipush 8), (14, .irem), (15, .ifCond .eq 5), (18, .aconst_null), (19, .areturn), (20, .aload_n 0), (21, .getfield 17), (24, .iload_n 1), (25, .bipush 8), (27, .idiv), (28, .aaload), (29, .areturn)]
/-- 75: CapTreeKernel.page(II)I -/
def x_l75 : List (Nat × Instr) := [(0, .aload_n 0), (1, .iload_n 1), (2, .invokevirtual 262), (5, .astore_n 3), (6, .aload_n 3), (7, .ifnull 20), (10, .aload_n 3), (11, .getfield 147), (14, .ifnull 13), (17, .iload_n 2), (18, .ifCond .lt 9), (21, .iload_n 2), (22, .bipush 16), (24, .if_icmp .lt 5), (27, .iconst (-1)), (28, .ireturn), (29, .aload_n 3), (30, .getfield 147), (33, .getfield 211), (36, .iload_n 2), (37, .iconst 4), (38, .idiv), (39, .aaload), (40, .astore 4), (42, .aload 4), (44, .ifnonnull 5), (47, .iconst (-1)), (48, .ireturn), (49, .aload 4), (51, .getfield 271), (54, .iload_n 2), (55, .iconst 4), (56, .irem), (57, .aaload), (58, .astore 5), (60, .aload 5), (62, .ifnonnull 5), (65, .iconst (-1)), (66, .ireturn), (67, .aload 5), (69, .getfield 75), (72, .getfield 244), (75, .sipush 128), (78, .aload 5), (80, .getfield 118), (83, .imul), (84, .iadd), (85, .ireturn)]
/-- 76: CapTreeKernelModel.<init>()V -/
def x_l76 : List (Nat × Instr) := [(0, .aload_n 0), (1, .invokespecial 1), (4, .aload_n 0), (5, .sipush 128), (8, .newarray .int), (10, .putfield 7), (13, .aload_n 0), (14, .sipush 128), (17, .newarray .int), (19, .putfield 13), (22, .aload_n 0), (23, .sipush 128), (26, .newarray .int), (28, .putfield 16), (31, .aload_n 0), (32, .sipush 128), (35, .newarray .int), (37, .putfield 19), (40, .aload_n 0), (41, .sipush 128), (44, .newarray .int), (46, .putfield 22), (49, .aload_n 0), (50, .sipush 128), (53, .newarray .int), (55, .putfield 25), (58, .aload_n 0), (59, .sipush 128), (62, .newarray .int), (64, .putfield 28), (67, .aload_n 0), (68, .sipush 128), (71, .newarray .int), (73, .putfield 31), (76, .aload_n 0), (77, .sipush 128), (80, .newarray .int), (82, .putfield 34), (85, .aload_n 0), (86, .sipush 128), (89, .newarray .boolean), (91, .putfield 37), (94, .aload_n 0), (95, .bipush 16), (97, .newarray .int), (99, .putfield 41), (102, .aload_n 0), (103, .bipush 16), (105, .newarray .int), (107, .putfield 44), (110, .aload_n 0), (111, .bipush 16), (113, .newarray .int), (115, .putfield 47), (118, .aload_n 0), (119, .bipush 16), (121, .newarray .int), (123, .putfield 50), (126, .aload_n 0), (127, .bipush 16), (129, .newarray .int), (131, .putfield 53), (134, .aload_n 0), (135, .bipush 16), (137, .newarray .int), (139, .putfield 56), (142, .aload_n 0), (143, .bipush 16), (145, .newarray .int), (147, .putfield 59), (150, .aload_n 0), (151, .bipush 16), (153, .newarray .int), (155, .putfield 62), (158, .aload_n 0), (159, .bipush 16), (161, .newarray .int), (163, .putfield 65), (166, .aload_n 0), (167, .bipush 16), (169, .newarray .int), (171, .putfield 68), (174, .aload_n 0), (175, .bipush 16), (177, .newarray .int), (179, .putfield 71), (182, .aload_n 0), (183, .bipush 16), (185, .newarray .int), (187, .putfield 74), (190, .aload_n 0), (191, .bipush 16), (193, .newarray .int), (195, .putfield 77), (198, .aload_n 0), (199, .bipush 16), (201, .newarray .boolean), (203, .putfield 80), (206, .aload_n 0), (207, .bipush 64), (209, .newarray .int), (211, .putfield 83), (214, .aload_n 0), (215, .bipush 32), (217, .newarray .int), (219, .putfield 86), (222, .aload_n 0), (223, .bipush 32), (225, .newarray .int), (227, .putfield 89), (230, .aload_n 0), (231, .iconst 4), (232, .newarray .int), (234, .putfield 92), (237, .iconst 0), (238, .istore_n 1), (239, .iload_n 1), (240, .sipush 128), (243, .if_icmp .ge 16), (246, .aload_n 0), (247, .getfield 7), (250, .iload_n 1), (251, .iconst (-1)), (252, .iastore), (253, .iinc 1 1), (256, .goto (-17)), (259, .iconst 0), (260, .istore_n 1), (261, .iload_n 1), (262, .iconst 4), (263, .if_icmp .ge 16), (266, .aload_n 0), (267, .getfield 92), (270, .iload_n 1), (271, .iconst (-1)), (272, .iastore), (273, .iinc 1 1), (276, .goto (-15)), (279, .aload_n 0), (280, .iconst 0), (281, .iconst 1), (282, .iconst 0), (283, .iconst 0), (284, .iconst (-1)), (285, .invokevirtual 95), (288, .aload_n 0), (289, .iconst 1), (290, .iconst 2), (291, .bipush 16), (293, .iconst 0), (294, .iconst (-1)), (295, .invokevirtual 95), (298, .aload_n 0), (299, .iconst 2), (300, .iconst 0), (301, .bipush 32), (303, .iconst 5), (304, .iconst (-1)), (305, .invokevirtual 95), (308, .aload_n 0), (309, .iconst 3), (310, .iconst 0), (311, .bipush 64), (313, .bipush 6), (315, .iconst (-1)), (316, .invokevirtual 95), (319, .aload_n 0), (320, .iconst 2), (321, .bipush 16), (323, .invokevirtual 99), (326, .aload_n 0), (327, .getfield 44), (330, .iconst 2), (331, .iconst 0), (332, .iastore), (333, .aload_n 0), (334, .getfield 50), (337, .iconst 2), (338, .iconst 3), (339, .iastore), (340, .aload_n 0), (341, .iconst 2), (342, .invokevirtual 103), (345, .return_)]
/-- 77: CapTreeKernelModel.fill(IIIII)V -/
def x_l77 : List (Nat × Instr) := [(0, .aload_n 0), (1, .getfield 7), (4, .iload_n 1), (5, .iload_n 2), (6, .iastore), (7, .aload_n 0), (8, .getfield 13), (11, .iload_n 1), (12, .iload_n 3), (13, .iastore), (14, .aload_n 0), (15, .getfield 16), (18, .iload_n 1), (19, .bipush 7), (21, .iastore), (22, .aload_n 0), (23, .getfield 19), (26, .iload_n 1), (27, .iconst 0), (28, .iastore), (29, .aload_n 0), (30, .getfield 22), (33, .iload_n 1), (34, .iload 5), (36, .iastore), (37, .aload_n 0), (38, .getfield 25), (41, .iload_n 1), (42, .iload 4), (44, .iastore), (45, .aload_n 0), (46, .getfield 28), (49, .iload_n 1), (50, .iload_n 3), (51, .iastore), (52, .aload_n 0), (53, .getfield 31), (56, .iload_n 1), (57, .iconst (-1)), (58, .iastore), (59, .aload_n 0), (60, .getfield 34), (63, .iload_n 1), (64, .iconst 0), (65, .iastore), (66, .return_)]
/-- 78: CapTreeKernelModel.begin(II)V -/
def x_l78 : List (Nat × Instr) := [(0, .iload_n 1), (1, .iconst 2), (2, .if_icmp .ne 67), (5, .iload_n 2), (6, .bipush 8), (8, .idiv), (9, .istore_n 3), (10, .aload_n 0), (11, .getfield 41), (14, .iload_n 3), (15, .iconst 1), (16, .iastore), (17, .aload_n 0), (18, .getfield 44), (21, .iload_n 3), (22, .iconst (-1)), (23, .iastore), (24, .aload_n 0), (25, .getfield 47), (28, .iload_n 3), (29, .iconst (-1)), (30, .iastore), (31, .aload_n 0), (32, .getfield 50), (35, .iload_n 3), (36, .iconst 0), (37, .iastore), (38, .aload_n 0), (39, .getfield 53), (42, .iload_n 3), (43, .iconst 0), (44, .iastore), (45, .aload_n 0), (46, .getfield 56), (49, .iload_n 3), (50, .iconst 0), (51, .iastore), (52, .aload_n 0), (53, .getfield 59), (56, .iload_n 3), (57, .iconst 0), (58, .iastore), (59, .aload_n 0), (60, .getfield 62), (63, .iload_n 3), (64, .iconst 0), (65, .iastore), (66, .goto 35), (69, .iload_n 1), (70, .iconst 4), (71, .if_icmp .ne 15), (74, .aload_n 0), (75, .getfield 83), (78, .iload_n 2), (79, .iconst 2), (80, .idiv), (81, .iconst 0), (82, .iastore), (83, .goto 18), (86, .iload_n 1), (87, .bipush 6), (89, .if_icmp .ne 12), (92, .aload_n 0), (93, .getfield 86), (96, .iload_n 2), (97, .iconst 4), (98, .idiv), (99, .iconst (-1)), (100, .iastore), (101, .return_)]
/-- 79: CapTreeKernelModel.ready(I)V -/
def x_l79 : List (Nat × Instr) := [(0, .aload_n 0), (1, .getfield 41), (4, .iload_n 1), (5, .iconst 2), (6, .iastore), (7, .aload_n 0), (8, .getfield 53), (11, .iload_n 1), (12, .iconst 3), (13, .iastore), (14, .aload_n 0), (15, .dup), (16, .getfield 107), (19, .iconst 1), (20, .iadd), (21, .putfield 107), (24, .aload_n 0), (25, .getfield 65), (28, .iload_n 1), (29, .aload_n 0), (30, .getfield 107), (33, .iastore), (34, .return_)]
/-- 80: CapTreeKernelModel.retype(IIII)I -/
def x_l80 : List (Nat × Instr) := [(0, .aload_n 0), (1, .invokevirtual 111), (4, .ifCond .ge 6), (7, .bipush 8), (9, .ireturn), (10, .aload_n 0), (11, .iload_n 1), (12, .iconst 0), (13, .invokevirtual 133), (16, .istore 5), (18, .iload 5), (20, .ifCond .ge 5), (23, .iconst 1), (24, .ireturn), (25, .iload_n 2), (26, .ifCond .lt 24), (29, .iload_n 2), (30, .bipush 7), (32, .if_icmp .gt 18), (35, .iload_n 2), (36, .ifCond .ne 16), (39, .iload_n 3), (40, .iconst 1), (41, .if_icmp .lt 9), (44, .iload_n 3), (45, .bipush 6), (47, .if_icmp .le 5), (50, .iconst 4), (51, .ireturn), (52, .aload_n 0), (53, .iload 4), (55, .invokevirtual 136), (58, .istore 6), (60, .iload 6), (62, .ifCond .ge 5), (65, .iconst 3), (66, .ireturn), (67, .iload_n 2), (68, .iload_n 3), (69, .invokestatic 139), (72, .istore 7), (74, .aload_n 0), (75, .iload 5), (77, .invokevirtual 142), (80, .iload 7), (82, .iadd), (83, .iconst 1), (84, .isub), (85, .iload 7), (87, .idiv), (88, .iload 7), (90, .imul), (91, .istore 8), (93, .iload 8), (95, .iload 7), (97, .iadd), (98, .aload_n 0), (99, .getfield 13), (102, .iload 5), (104, .iaload), (105, .iconst 0), (106, .aload_n 0), (107, .getfield 25), (110, .iload 5), (112, .iaload), (113, .invokestatic 139), (116, .iadd), (117, .if_icmp .le 5), (120, .iconst 5), (121, .ireturn), (122, .aload_n 0), (123, .getfield 28), (126, .iload 5), (128, .iload 8), (130, .iload 7), (132, .iadd), (133, .iastore), (134, .aload_n 0), (135, .iload 6), (137, .iload_n 2), (138, .iload 8), (140, .iload_n 3), (141, .iload 5), (143, .invokevirtual 95), (146, .aload_n 0), (147, .iload_n 2), (148, .iload 8), (150, .invokevirtual 99), (153, .iconst 0), (154, .ireturn)]
/-- 81: CapTreeKernelModel.now()I -/
def x_l81 : List (Nat × Instr) := [(0, .iconst (-1)), (1, .istore_n 1), (2, .iconst 0), (3, .istore_n 2), (4, .iload_n 2), (5, .bipush 16), (7, .if_icmp .ge 80), (10, .iload_n 1), (11, .ifCond .lt 48), (14, .aload_n 0), (15, .getfield 50), (18, .iload_n 2), (19, .iaload), (20, .aload_n 0), (21, .getfield 50), (24, .iload_n 1), (25, .iaload), (26, .if_icmp .gt 33), (29, .aload_n 0), (30, .getfield 50), (33, .iload_n 2), (34, .iaload), (35, .aload_n 0), (36, .getfield 50), (39, .iload_n 1), (40, .iaload), (41, .if_icmp .ne 22), (44, .aload_n 0), (45, .getfield 65), (48, .iload_n 2), (49, .iaload), (50, .aload_n 0), (51, .getfield 65), (54, .iload_n 1), (55, .iaload), (56, .if_icmp .ge 7), (59, .iconst 1), (60, .goto 4), (63, .iconst 0), (64, .istore_n 3), (65, .aload_n 0), (66, .getfield 41), (69, .iload_n 2), (70, .iaload), (71, .iconst 2), (72, .if_icmp .ne 9), (75, .iload_n 3), (76, .ifCond .eq 5), (79, .iload_n 2), (80, .istore_n 1), (81, .iinc 2 1), (84, .goto (-80)), (87, .iload_n 1), (88, .ireturn)]
/-- 82: CapTreeKernelModel.having(II)I -/
def x_l82 : List (Nat × Instr) := [(0, .aload_n 0), (1, .aload_n 0), (2, .invokevirtual 111), (5, .iload_n 1), (6, .invokevirtual 115), (9, .istore_n 3), (10, .iload_n 3), (11, .ifCond .lt 26), (14, .aload_n 0), (15, .getfield 7), (18, .iload_n 3), (19, .iaload), (20, .ifCond .lt 17), (23, .iload_n 2), (24, .ifCond .lt 17), (27, .aload_n 0), (28, .getfield 7), (31, .iload_n 3), (32, .iaload), (33, .iload_n 2), (34, .if_icmp .eq 7), (37, .iconst (-1)), (38, .goto 4), (41, .iload_n 3), (42, .ireturn)]
/-- 83: CapTreeKernelModel.find(II)I -/
def x_l83 : List (Nat × Instr) := [(0, .aload_n 0), (1, .getfield 44), (4, .iload_n 1), (5, .iaload), (6, .iconst (-1)), (7, .if_icmp .eq 14), (10, .iload_n 2), (11, .ifCond .lt 10), (14, .iload_n 2), (15, .sipush 271), (18, .if_icmp .le 5), (21, .iconst (-1)), (22, .ireturn), (23, .iload_n 2), (24, .bipush 16), (26, .if_icmp .ge 12), (29, .aload_n 0), (30, .getfield 44), (33, .iload_n 1), (34, .iaload), (35, .iload_n 2), (36, .iadd), (37, .ireturn), (38, .aload_n 0), (39, .getfield 44), (42, .iload_n 1), (43, .iaload), (44, .iload_n 2), (45, .bipush 16), (47, .idiv), (48, .iadd), (49, .iconst 1), (50, .isub), (51, .istore_n 3), (52, .aload_n 0), (53, .getfield 7), (56, .iload_n 3), (57, .iaload), (58, .iconst 1), (59, .if_icmp .ne 17), (62, .aload_n 0), (63, .getfield 13), (66, .iload_n 3), (67, .iaload), (68, .iload_n 2), (69, .bipush 16), (71, .irem), (72, .iadd), (73, .goto 4), (76, .iconst (-1)), (77, .ireturn)]
/-- 84: CapTreeKernelModel.vacant(I)I -/
def x_l84 : List (Nat × Instr) := [(0, .aload_n 0), (1, .aload_n 0), (2, .invokevirtual 111), (5, .iload_n 1), (6, .invokevirtual 115), (9, .istore_n 2), (10, .iload_n 2), (11, .ifCond .lt 12), (14, .aload_n 0), (15, .getfield 7), (18, .iload_n 2), (19, .iaload), (20, .ifCond .lt 7), (23, .iconst (-1)), (24, .goto 4), (27, .iload_n 2), (28, .ireturn)]
/-- 85: CapTreeKernelModel.sizeOf(II)I -/
def x_l85 : List (Nat × Instr) := [(0, .iload_n 0), (1, .ifCond .ne 9), (4, .iconst 1), (5, .iload_n 1), (6, .ishl), (7, .goto 44), (10, .iload_n 0), (11, .iconst 1), (12, .if_icmp .ne 8), (15, .bipush 16), (17, .goto 34), (20, .iload_n 0), (21, .iconst 2), (22, .if_icmp .eq 9), (25, .iload_n 0), (26, .bipush 7), (28, .if_icmp .ne 8), (31, .bipush 8), (33, .goto 18), (36, .iload_n 0), (37, .iconst 3), (38, .if_icmp .eq 8), (41, .iload_n 0), (42, .iconst 4), (43, .if_icmp .ne 7), (46, .iconst 2), (47, .goto 4), (50, .iconst 4), (51, .ireturn)]
/-- 86: CapTreeKernelModel.freePoint(I)I -/
def x_l86 : List (Nat × Instr) := [(0, .aload_n 0), (1, .iload_n 1), (2, .invokevirtual 122), (5, .ifCond .ne 12), (8, .aload_n 0), (9, .getfield 13), (12, .iload_n 1), (13, .iaload), (14, .goto 9), (17, .aload_n 0), (18, .getfield 28), (21, .iload_n 1), (22, .iaload), (23, .ireturn)]
/-- 87: CapTreeKernelModel.children(I)I -/
def x_l87 : List (Nat × Instr) := [(0, .iconst 0), (1, .istore_n 2), (2, .iconst 0), (3, .istore_n 3), (4, .iload_n 3), (5, .sipush 128), (8, .if_icmp .ge 36), (11, .iload_n 2), (12, .aload_n 0), (13, .getfield 7), (16, .iload_n 3), (17, .iaload), (18, .ifCond .lt 17), (21, .aload_n 0), (22, .getfield 22), (25, .iload_n 3), (26, .iaload), (27, .iload_n 1), (28, .if_icmp .ne 7), (31, .iconst 1), (32, .goto 4), (35, .iconst 0), (36, .iadd), (37, .istore_n 2), (38, .iinc 3 1), (41, .goto (-37)), (44, .iload_n 2), (45, .ireturn)]
/-- 88: CapTreeKernelModel.copy(IIII)I -/
def x_l88 : List (Nat × Instr) := [(0, .aload_n 0), (1, .invokevirtual 111), (4, .ifCond .ge 6), (7, .bipush 8), (9, .ireturn), (10, .aload_n 0), (11, .iload_n 1), (12, .iconst (-1)), (13, .invokevirtual 133), (16, .istore 5), (18, .iload 5), (20, .ifCond .ge 5), (23, .iconst 1), (24, .ireturn), (25, .aload_n 0), (26, .getfield 7), (29, .iload 5), (31, .iaload), (32, .ifCond .ne 5), (35, .iconst 2), (36, .ireturn), (37, .iload_n 3), (38, .ifCond .lt 22), (41, .iload_n 3), (42, .bipush 7), (44, .if_icmp .gt 16), (47, .iload 4), (49, .ifCond .lt 11), (52, .iload 4), (54, .sipush 255), (57, .if_icmp .le 5), (60, .iconst 4), (61, .ireturn), (62, .aload_n 0), (63, .iload_n 2), (64, .invokevirtual 136), (67, .istore 6), (69, .iload 6), (71, .ifCond .ge 5), (74, .iconst 3), (75, .ireturn), (76, .aload_n 0), (77, .iload 6), (79, .aload_n 0), (80, .getfield 7), (83, .iload 5), (85, .iaload), (86, .aload_n 0), (87, .getfield 13), (90, .iload 5), (92, .iaload), (93, .iconst 0), (94, .iload 5), (96, .invokevirtual 95), (99, .aload_n 0), (100, .getfield 16), (103, .iload 6), (105, .aload_n 0), (106, .getfield 16), (109, .iload 5), (111, .iaload), (112, .iload_n 3), (113, .iand), (114, .iastore), (115, .aload_n 0), (116, .getfield 19), (119, .iload 6), (121, .aload_n 0), (122, .getfield 19), (125, .iload 5), (127, .iaload), (128, .ifCond .ne 30), (131, .aload_n 0), (132, .getfield 7), (135, .iload 5), (137, .iaload), (138, .iconst 3), (139, .if_icmp .eq 14), (142, .aload_n 0), (143, .getfield 7), (146, .iload 5), (148, .iaload), (149, .iconst 4), (150, .if_icmp .ne 8), (153, .iload 4), (155, .goto 10), (158, .aload_n 0), (159, .getfield 19), (162, .iload 5), (164, .iaload), (165, .iastore), (166, .iconst 0), (167, .ireturn)]
/-- 89: CapTreeKernelModel.move(II)I -/
def x_l89 : List (Nat × Instr) := [(0, .aload_n 0), (1, .invokevirtual 111), (4, .ifCond .ge 6), (7, .bipush 8), (9, .ireturn), (10, .aload_n 0), (11, .iload_n 1), (12, .iconst (-1)), (13, .invokevirtual 133), (16, .istore_n 3), (17, .aload_n 0), (18, .iload_n 2), (19, .invokevirtual 136), (22, .istore 4), (24, .iload_n 3), (25, .ifCond .lt 8), (28, .iload 4), (30, .ifCond .ge 13), (33, .iload_n 3), (34, .ifCond .ge 7), (37, .iconst 1), (38, .goto 4), (41, .iconst 3), (42, .ireturn), (43, .aload_n 0), (44, .iload 4), (46, .aload_n 0), (47, .getfield 7), (50, .iload_n 3), (51, .iaload), (52, .aload_n 0), (53, .getfield 13), (56, .iload_n 3), (57, .iaload), (58, .aload_n 0), (59, .getfield 25), (62, .iload_n 3), (63, .iaload), (64, .aload_n 0), (65, .getfield 22), (68, .iload_n 3), (69, .iaload), (70, .invokevirtual 95), (73, .aload_n 0), (74, .getfield 16), (77, .iload 4), (79, .aload_n 0), (80, .getfield 16), (83, .iload_n 3), (84, .iaload), (85, .iastore), (86, .aload_n 0), (87, .getfield 19), (90, .iload 4), (92, .aload_n 0), (93, .getfield 19), (96, .iload_n 3), (97, .iaload), (98, .iastore), (99, .aload_n 0), (100, .getfield 28), (103, .iload 4), (105, .aload_n 0), (106, .getfield 28), (109, .iload_n 3), (110, .iaload), (111, .iastore), (112, .aload_n 0), (113, .getfield 31), (116, .iload 4), (118, .aload_n 0), (119, .getfield 31), (122, .iload_n 3), (123, .iaload), (124, .iastore), (125, .aload_n 0), (126, .getfield 34), (129, .iload 4), (131, .aload_n 0), (132, .getfield 34), (135, .iload_n 3), (136, .iaload), (137, .iastore), (138, .aload_n 0), (139, .getfield 7), (142, .iload_n 3), (143, .iconst (-1)), (144, .iastore), (145, .iconst 0), (146, .istore 5), (148, .iload 5), (150, .sipush 128), (153, .if_icmp .ge 39), (156, .aload_n 0), (157, .getfield 22), (160, .iload 5), (162, .aload_n 0), (163, .getfield 22), (166, .iload 5), (168, .iaload), (169, .iload_n 3), (170, .if_icmp .ne 8), (173, .iload 4), (175, .goto 10), (178, .aload_n 0), (179, .getfield 22), (182, .iload 5), (184, .iaload), (185, .iastore), (186, .iinc 5 1), (189, .goto (-41)), (192, .iconst 0), (193, .ireturn)]
/-- 90: CapTreeKernelModel.delete(I)I -/
def x_l90 : List (Nat × Instr) := [(0, .aload_n 0), (1, .invokevirtual 111), (4, .ifCond .ge 6), (7, .bipush 8), (9, .ireturn), (10, .aload_n 0), (11, .iload_n 1), (12, .iconst (-1)), (13, .invokevirtual 133), (16, .istore_n 2), (17, .iload_n 2), (18, .ifCond .ge 5), (21, .iconst 1), (22, .ireturn), (23, .aload_n 0), (24, .getfield 37), (27, .iload_n 2), (28, .iconst 1), (29, .bastore), (30, .aload_n 0), (31, .invokevirtual 145), (34, .iconst 0), (35, .ireturn)]
/-- 91: CapTreeKernelModel.sweep()V -/
def x_l91 : List (Nat × Instr) := [(0, .iconst 1), (1, .istore_n 1), (2, .iconst 0), (3, .istore_n 2), (4, .iload_n 2), (5, .sipush 1000), (8, .if_icmp .ge 46), (11, .iload_n 1), (12, .ifCond .eq 42), (15, .iconst 0), (16, .istore_n 1), (17, .iconst 0), (18, .istore_n 3), (19, .iload_n 3), (20, .sipush 128), (23, .if_icmp .ge 25), (26, .aload_n 0), (27, .getfield 37), (30, .iload_n 3), (31, .baload), (32, .ifCond .eq 10), (35, .iconst 1), (36, .istore_n 1), (37, .aload_n 0), (38, .iload_n 3), (39, .invokevirtual 130), (42, .iinc 3 1), (45, .goto (-26)), (48, .iinc 2 1), (51, .goto (-47)), (54, .return_)]
/-- 92: CapTreeKernelModel.remove(I)V -/
def x_l92 : List (Nat × Instr) := [(0, .aload_n 0), (1, .getfield 7), (4, .iload_n 1), (5, .iaload), (6, .istore_n 2), (7, .aload_n 0), (8, .getfield 13), (11, .iload_n 1), (12, .iaload), (13, .istore_n 3), (14, .aload_n 0), (15, .getfield 37), (18, .iload_n 1), (19, .iconst 0), (20, .bastore), (21, .aload_n 0), (22, .getfield 7), (25, .iload_n 1), (26, .iconst (-1)), (27, .iastore), (28, .iconst 0), (29, .istore 4), (31, .iload 4), (33, .sipush 128), (36, .if_icmp .ge 43), (39, .aload_n 0), (40, .getfield 22), (43, .iload 4), (45, .aload_n 0), (46, .getfield 22), (49, .iload 4), (51, .iaload), (52, .iload_n 1), (53, .if_icmp .ne 12), (56, .aload_n 0), (57, .getfield 22), (60, .iload_n 1), (61, .iaload), (62, .goto 10), (65, .aload_n 0), (66, .getfield 22), (69, .iload 4), (71, .iaload), (72, .iastore), (73, .iinc 4 1), (76, .goto (-45)), (79, .iload_n 2), (80, .ifCond .eq 12), (83, .aload_n 0), (84, .iload_n 2), (85, .iload_n 3), (86, .invokevirtual 119), (89, .ifCond .le 4), (92, .return_), (93, .iconst 0), (94, .istore 4), (96, .iload 4), (98, .bipush 16), (100, .if_icmp .ge 157), (103, .aload_n 0), (104, .getfield 44), (107, .iload 4), (109, .iload_n 2), (110, .iconst 1), (111, .if_icmp .ne 18), (114, .aload_n 0), (115, .getfield 44), (118, .iload 4), (120, .iaload), (121, .iload_n 3), (122, .if_icmp .ne 7), (125, .iconst (-1)), (126, .goto 10), (129, .aload_n 0), (130, .getfield 44), (133, .iload 4), (135, .iaload), (136, .iastore), (137, .aload_n 0), (138, .getfield 47), (141, .iload 4), (143, .iload_n 2), (144, .iconst 5), (145, .if_icmp .ne 18), (148, .aload_n 0), (149, .getfield 47), (152, .iload 4), (154, .iaload), (155, .iload_n 3), (156, .if_icmp .ne 7), (159, .iconst (-1)), (160, .goto 10), (163, .aload_n 0), (164, .getfield 47), (167, .iload 4), (169, .iaload), (170, .iastore), (171, .iload_n 2), (172, .iconst 3), (173, .if_icmp .eq 8), (176, .iload_n 2), (177, .iconst 4), (178, .if_icmp .ne 29), (181, .aload_n 0), (182, .getfield 41), (185, .iload 4), (187, .iaload), (188, .iconst 3), (189, .if_icmp .lt 18), (192, .aload_n 0), (193, .getfield 68), (196, .iload 4), (198, .iaload), (199, .iload_n 3), (200, .if_icmp .ne 7), (203, .iconst 1), (204, .goto 4), (207, .iconst 0), (208, .istore 5), (210, .aload_n 0), (211, .getfield 41), (214, .iload 4), (216, .iload 5), (218, .ifCond .eq 7), (221, .iconst 1), (222, .goto 28), (225, .iload_n 2), (226, .iconst 2), (227, .if_icmp .ne 16), (230, .iload 4), (232, .iload_n 3), (233, .bipush 8), (235, .idiv), (236, .if_icmp .ne 7), (239, .iconst 0), (240, .goto 10), (243, .aload_n 0), (244, .getfield 41), (247, .iload 4), (249, .iaload), (250, .iastore), (251, .iinc 4 1), (254, .goto (-158)), (257, .iconst 0), (258, .istore 4), (260, .iload 4), (262, .sipush 128), (265, .if_icmp .ge 93), (268, .aload_n 0), (269, .getfield 37), (272, .iload 4), (274, .aload_n 0), (275, .getfield 37), (278, .iload 4), (280, .baload), (281, .ifCond .ne 30), (284, .iload_n 2), (285, .iconst 1), (286, .if_icmp .ne 29), (289, .iload 4), (291, .bipush 16), (293, .idiv), (294, .iload_n 3), (295, .bipush 16), (297, .idiv), (298, .if_icmp .ne 17), (301, .aload_n 0), (302, .getfield 7), (305, .iload 4), (307, .iaload), (308, .ifCond .lt 7), (311, .iconst 1), (312, .goto 4), (315, .iconst 0), (316, .bastore), (317, .aload_n 0), (318, .getfield 31), (321, .iload 4), (323, .iload_n 2), (324, .bipush 6), (326, .if_icmp .ne 18), (329, .aload_n 0), (330, .getfield 31), (333, .iload 4), (335, .iaload), (336, .iload_n 3), (337, .if_icmp .ne 7), (340, .iconst (-1)), (341, .goto 10), (344, .aload_n 0), (345, .getfield 31), (348, .iload 4), (350, .iaload), (351, .iastore), (352, .iinc 4 1), (355, .goto (-95)), (358, .iconst 0), (359, .istore 4), (361, .iload 4), (363, .bipush 32), (365, .if_icmp .ge 57), (368, .aload_n 0), (369, .getfield 86), (372, .iload 4), (374, .iload_n 2), (375, .bipush 6), (377, .if_icmp .ne 11), (380, .iload 4), (382, .iload_n 3), (383, .iconst 4), (384, .idiv), (385, .if_icmp .eq 19), (388, .iload_n 2), (389, .iconst 5), (390, .if_icmp .ne 18), (393, .aload_n 0), (394, .getfield 86), (397, .iload 4), (399, .iaload), (400, .iload_n 3), (401, .if_icmp .ne 7), (404, .iconst (-1)), (405, .goto 10), (408, .aload_n 0), (409, .getfield 86), (412, .iload 4), (414, .iaload), (415, .iastore), (416, .iinc 4 1), (419, .goto (-58)), (422, .iconst 0), (423, .istore 4), (425, .iload 4), (427, .iconst 4), (428, .if_icmp .ge 43), (431, .aload_n 0), (432, .getfield 92), (435, .iload 4), (437, .iload_n 2), (438, .iconst 4), (439, .if_icmp .ne 18), (442, .aload_n 0), (443, .getfield 92), (446, .iload 4), (448, .iaload), (449, .iload_n 3), (450, .if_icmp .ne 7), (453, .iconst (-1)), (454, .goto 10), (457, .aload_n 0), (458, .getfield 92), (461, .iload 4), (463, .iaload), (464, .iastore), (465, .iinc 4 1), (468, .goto (-43)), (471, .return_)]
/-- 93: CapTreeKernelModel.holders(II)I -/
def x_l93 : List (Nat × Instr) := [(0, .iconst 0), (1, .istore_n 3), (2, .iconst 0), (3, .istore 4), (5, .iload 4), (7, .sipush 128), (10, .if_icmp .ge 39), (13, .iload_n 3), (14, .aload_n 0), (15, .getfield 7), (18, .iload 4), (20, .iaload), (21, .iload_n 1), (22, .if_icmp .ne 18), (25, .aload_n 0), (26, .getfield 13), (29, .iload 4), (31, .iaload), (32, .iload_n 2), (33, .if_icmp .ne 7), (36, .iconst 1), (37, .goto 4), (40, .iconst 0), (41, .iadd), (42, .istore_n 3), (43, .iinc 4 1), (46, .goto (-41)), (49, .iload_n 1), (50, .ifCond .ne 7), (53, .iconst 1), (54, .goto 4), (57, .iload_n 3), (58, .ireturn)]
/-- 94: CapTreeKernelModel.revoke(I)I -/
def x_l94 : List (Nat × Instr) := [(0, .aload_n 0), (1, .invokevirtual 111), (4, .ifCond .ge 6), (7, .bipush 8), (9, .ireturn), (10, .aload_n 0), (11, .iload_n 1), (12, .iconst (-1)), (13, .invokevirtual 133), (16, .istore_n 2), (17, .iload_n 2), (18, .ifCond .ge 5), (21, .iconst 1), (22, .ireturn), (23, .iconst 0), (24, .istore_n 3), (25, .iload_n 3), (26, .sipush 128), (29, .if_icmp .ge 85), (32, .aload_n 0), (33, .getfield 7), (36, .iload_n 3), (37, .iaload), (38, .ifCond .ge 7), (41, .iconst (-1)), (42, .goto 9), (45, .aload_n 0), (46, .getfield 22), (49, .iload_n 3), (50, .iaload), (51, .istore 4), (53, .iconst 0), (54, .istore 5), (56, .iload 5), (58, .sipush 128), (61, .if_icmp .ge 30), (64, .iload 4), (66, .iconst (-1)), (67, .if_icmp .eq 24), (70, .iload 4), (72, .iload_n 2), (73, .if_icmp .eq 18), (76, .aload_n 0), (77, .getfield 22), (80, .iload 4), (82, .iaload), (83, .istore 4), (85, .iinc 5 1), (88, .goto (-32)), (91, .aload_n 0), (92, .getfield 37), (95, .iload_n 3), (96, .iload 4), (98, .iload_n 2), (99, .if_icmp .ne 7), (102, .iconst 1), (103, .goto 4), (106, .iconst 0), (107, .bastore), (108, .iinc 3 1), (111, .goto (-86)), (114, .aload_n 0), (115, .invokevirtual 145), (118, .iconst 0), (119, .ireturn)]
/-- 95: CapTreeKernelModel.configure(IIII)I -/
def x_l95 : List (Nat × Instr) := [(0, .aload_n 0), (1, .invokevirtual 111), (4, .ifCond .ge 6), (7, .bipush 8), (9, .ireturn), (10, .aload_n 0), (11, .iload_n 1), (12, .iconst 2), (13, .invokevirtual 133), (16, .istore 5), (18, .aload_n 0), (19, .iload_n 2), (20, .iconst 1), (21, .invokevirtual 133), (24, .istore 6), (26, .aload_n 0), (27, .iload_n 3), (28, .iconst 5), (29, .invokevirtual 133), (32, .istore 7), (34, .iload 5), (36, .ifCond .lt 23), (39, .iload_n 2), (40, .iconst (-1)), (41, .if_icmp .eq 8), (44, .iload 6), (46, .ifCond .lt 13), (49, .iload_n 3), (50, .iconst (-1)), (51, .if_icmp .eq 10), (54, .iload 7), (56, .ifCond .ge 5), (59, .iconst 1), (60, .ireturn), (61, .iload 4), (63, .ifCond .lt 9), (66, .iload 4), (68, .iconst 3), (69, .if_icmp .le 5), (72, .iconst 4), (73, .ireturn), (74, .iload 4), (76, .aload_n 0), (77, .getfield 50), (80, .aload_n 0), (81, .invokevirtual 111), (84, .iaload), (85, .if_icmp .le 5), (88, .iconst 2), (89, .ireturn), (90, .aload_n 0), (91, .getfield 13), (94, .iload 5), (96, .iaload), (97, .bipush 8), (99, .idiv), (100, .istore 8), (102, .aload_n 0), (103, .getfield 44), (106, .iload 8), (108, .iload_n 2), (109, .iconst (-1)), (110, .if_icmp .ne 7), (113, .iconst (-1)), (114, .goto 10), (117, .aload_n 0), (118, .getfield 13), (121, .iload 6), (123, .iaload), (124, .iastore), (125, .aload_n 0), (126, .getfield 47), (129, .iload 8), (131, .iload_n 3), (132, .iconst (-1)), (133, .if_icmp .ne 7), (136, .iconst (-1)), (137, .goto 10), (140, .aload_n 0), (141, .getfield 13), (144, .iload 7), (146, .iaload), (147, .iastore), (148, .aload_n 0), (149, .getfield 50), (152, .iload 8), (154, .iaload), (155, .iload 4), (157, .if_icmp .eq 45), (160, .aload_n 0), (161, .dup), (162, .getfield 107), (165, .iconst 1), (166, .iadd), (167, .putfield 107), (170, .aload_n 0), (171, .getfield 65), (174, .iload 8), (176, .aload_n 0), (177, .getfield 41), (180, .iload 8), (182, .iaload), (183, .iconst 2), (184, .if_icmp .ne 10), (187, .aload_n 0), (188, .getfield 107), (191, .goto 10), (194, .aload_n 0), (195, .getfield 65), (198, .iload 8), (200, .iaload), (201, .iastore), (202, .aload_n 0), (203, .getfield 50), (206, .iload 8), (208, .iload 4), (210, .iastore), (211, .iconst 0), (212, .ireturn)]
/-- 96: CapTreeKernelModel.run(IZ)I -/
def x_l96 : List (Nat × Instr) := [(0, .aload_n 0), (1, .invokevirtual 111), (4, .ifCond .ge 6), (7, .bipush 8), (9, .ireturn), (10, .aload_n 0), (11, .iload_n 1), (12, .iconst 2), (13, .invokevirtual 133), (16, .istore_n 3), (17, .iload_n 3), (18, .ifCond .ge 5), (21, .iconst 1), (22, .ireturn), (23, .aload_n 0), (24, .getfield 13), (27, .iload_n 3), (28, .iaload), (29, .bipush 8), (31, .idiv), (32, .istore 4), (34, .iload_n 2), (35, .ifCond .ne 14), (38, .aload_n 0), (39, .getfield 41), (42, .iload 4), (44, .iconst 1), (45, .iastore), (46, .goto 20), (49, .aload_n 0), (50, .getfield 41), (53, .iload 4), (55, .iaload), (56, .iconst 1), (57, .if_icmp .ne 9), (60, .aload_n 0), (61, .iload 4), (63, .invokevirtual 103), (66, .iconst 0), (67, .ireturn)]
/-- 97: CapTreeKernelModel.send(IIIZ)I -/
def x_l97 : List (Nat × Instr) := [(0, .aload_n 0), (1, .invokevirtual 111), (4, .istore 5), (6, .iload 5), (8, .ifCond .ge 6), (11, .bipush 8), (13, .ireturn), (14, .aload_n 0), (15, .iload_n 1), (16, .iconst 3), (17, .invokevirtual 133), (20, .istore 6), (22, .iload 6), (24, .ifCond .lt 15), (27, .aload_n 0), (28, .getfield 16), (31, .iload 6), (33, .iaload), (34, .iconst 2), (35, .iand), (36, .ifCond .ne 14), (39, .iload 6), (41, .ifCond .ge 7), (44, .iconst 1), (45, .goto 4), (48, .iconst 2), (49, .ireturn), (50, .aload_n 0), (51, .iconst 4), (52, .aload_n 0), (53, .getfield 13), (56, .iload 6), (58, .iaload), (59, .invokevirtual 148), (62, .istore 7), (64, .iload 7), (66, .ifCond .ge 11), (69, .iload 4), (71, .ifCond .ne 6), (74, .bipush 6), (76, .ireturn), (77, .aload_n 0), (78, .getfield 71), (81, .iload 5), (83, .iload_n 3), (84, .iastore), (85, .aload_n 0), (86, .getfield 74), (89, .iload 5), (91, .iload_n 2), (92, .iastore), (93, .aload_n 0), (94, .getfield 77), (97, .iload 5), (99, .aload_n 0), (100, .getfield 19), (103, .iload 6), (105, .iaload), (106, .iastore), (107, .aload_n 0), (108, .getfield 80), (111, .iload 5), (113, .aload_n 0), (114, .getfield 16), (117, .iload 6), (119, .iaload), (120, .iconst 4), (121, .iand), (122, .ifCond .eq 7), (125, .iconst 1), (126, .goto 4), (129, .iconst 0), (130, .bastore), (131, .iload 7), (133, .ifCond .ge 21), (136, .aload_n 0), (137, .iload 5), (139, .iconst 3), (140, .aload_n 0), (141, .getfield 13), (144, .iload 6), (146, .iaload), (147, .iload_n 3), (148, .invokevirtual 151), (151, .bipush 10), (153, .ireturn), (154, .aload_n 0), (155, .iload 5), (157, .iload 7), (159, .invokevirtual 155), (162, .aload_n 0), (163, .iload 7), (165, .invokevirtual 103), (168, .iconst 0), (169, .ireturn)]
/-- 98: CapTreeKernelModel.first(II)I -/
def x_l98 : List (Nat × Instr) := [(0, .iconst (-1)), (1, .istore_n 3), (2, .iconst 0), (3, .istore 4), (5, .iload 4), (7, .bipush 16), (9, .if_icmp .ge 54), (12, .aload_n 0), (13, .getfield 41), (16, .iload 4), (18, .iaload), (19, .iload_n 1), (20, .if_icmp .ne 37), (23, .aload_n 0), (24, .getfield 68), (27, .iload 4), (29, .iaload), (30, .iload_n 2), (31, .if_icmp .ne 26), (34, .iload_n 3), (35, .ifCond .lt 19), (38, .aload_n 0), (39, .getfield 65), (42, .iload 4), (44, .iaload), (45, .aload_n 0), (46, .getfield 65), (49, .iload_n 3), (50, .iaload), (51, .if_icmp .ge 6), (54, .iload 4), (56, .istore_n 3), (57, .iinc 4 1), (60, .goto (-55)), (63, .iload_n 3), (64, .ireturn)]
/-- 99: CapTreeKernelModel.waits(IIII)V -/
def x_l99 : List (Nat × Instr) := [(0, .aload_n 0), (1, .getfield 41), (4, .iload_n 1), (5, .iload_n 2), (6, .iastore), (7, .aload_n 0), (8, .getfield 68), (11, .iload_n 1), (12, .iload_n 3), (13, .iastore), (14, .aload_n 0), (15, .getfield 71), (18, .iload_n 1), (19, .iload 4), (21, .iastore), (22, .aload_n 0), (23, .dup), (24, .getfield 107), (27, .iconst 1), (28, .iadd), (29, .putfield 107), (32, .aload_n 0), (33, .getfield 65), (36, .iload_n 1), (37, .aload_n 0), (38, .getfield 107), (41, .iastore), (42, .return_)]
/-- 100: CapTreeKernelModel.transfer(II)V -/
def x_l100 : List (Nat × Instr) := [(0, .aload_n 0), (1, .getfield 56), (4, .iload_n 2), (5, .aload_n 0), (6, .getfield 74), (9, .iload_n 1), (10, .iaload), (11, .iastore), (12, .aload_n 0), (13, .getfield 59), (16, .iload_n 2), (17, .aload_n 0), (18, .getfield 77), (21, .iload_n 1), (22, .iaload), (23, .iastore), (24, .aload_n 0), (25, .iload_n 1), (26, .aload_n 0), (27, .getfield 71), (30, .iload_n 1), (31, .iaload), (32, .invokevirtual 115), (35, .istore_n 3), (36, .aload_n 0), (37, .iload_n 2), (38, .aload_n 0), (39, .getfield 71), (42, .iload_n 2), (43, .iaload), (44, .invokevirtual 115), (47, .istore 4), (49, .aload_n 0), (50, .getfield 80), (53, .iload_n 1), (54, .baload), (55, .ifCond .eq 35), (58, .iload_n 3), (59, .ifCond .lt 31), (62, .iload 4), (64, .ifCond .lt 26), (67, .aload_n 0), (68, .getfield 7), (71, .iload_n 3), (72, .iaload), (73, .ifCond .le 17), (76, .aload_n 0), (77, .getfield 7), (80, .iload 4), (82, .iaload), (83, .ifCond .ge 7), (86, .iconst 1), (87, .goto 4), (90, .iconst 0), (91, .istore 5), (93, .aload_n 0), (94, .getfield 62), (97, .iload_n 2), (98, .iload 5), (100, .ifCond .eq 7), (103, .iconst 1), (104, .goto 4), (107, .iconst 0), (108, .iastore), (109, .iload 5), (111, .ifCond .eq 49), (114, .aload_n 0), (115, .iload 4), (117, .aload_n 0), (118, .getfield 7), (121, .iload_n 3), (122, .iaload), (123, .aload_n 0), (124, .getfield 13), (127, .iload_n 3), (128, .iaload), (129, .iconst 0), (130, .iload_n 3), (131, .invokevirtual 95), (134, .aload_n 0), (135, .getfield 16), (138, .iload 4), (140, .aload_n 0), (141, .getfield 16), (144, .iload_n 3), (145, .iaload), (146, .iastore), (147, .aload_n 0), (148, .getfield 19), (151, .iload 4), (153, .aload_n 0), (154, .getfield 19), (157, .iload_n 3), (158, .iaload), (159, .iastore), (160, .return_)]
/-- 101: CapTreeKernelModel.receive(IIZ)I -/
def x_l101 : List (Nat × Instr) := [(0, .aload_n 0), (1, .invokevirtual 111), (4, .istore 4), (6, .iload 4), (8, .ifCond .ge 6), (11, .bipush 8), (13, .ireturn), (14, .aload_n 0), (15, .iload_n 1), (16, .iconst 3), (17, .invokevirtual 133), (20, .istore 5), (22, .iload 5), (24, .ifCond .lt 15), (27, .aload_n 0), (28, .getfield 16), (31, .iload 5), (33, .iaload), (34, .iconst 1), (35, .iand), (36, .ifCond .ne 14), (39, .iload 5), (41, .ifCond .ge 7), (44, .iconst 1), (45, .goto 4), (48, .iconst 2), (49, .ireturn), (50, .aload_n 0), (51, .iconst 3), (52, .aload_n 0), (53, .getfield 13), (56, .iload 5), (58, .iaload), (59, .invokevirtual 148), (62, .istore 6), (64, .iload 6), (66, .ifCond .ge 10), (69, .iload_n 3), (70, .ifCond .ne 6), (73, .bipush 6), (75, .ireturn), (76, .iload 6), (78, .ifCond .ge 21), (81, .aload_n 0), (82, .iload 4), (84, .iconst 4), (85, .aload_n 0), (86, .getfield 13), (89, .iload 5), (91, .iaload), (92, .iload_n 2), (93, .invokevirtual 151), (96, .bipush 10), (98, .ireturn), (99, .aload_n 0), (100, .getfield 71), (103, .iload 4), (105, .iload_n 2), (106, .iastore), (107, .aload_n 0), (108, .iload 6), (110, .iload 4), (112, .invokevirtual 155), (115, .aload_n 0), (116, .iload 6), (118, .invokevirtual 103), (121, .iconst 0), (122, .ireturn)]
/-- 102: CapTreeKernelModel.signal(I)I -/
def x_l102 : List (Nat × Instr) := [(0, .aload_n 0), (1, .invokevirtual 111), (4, .ifCond .ge 6), (7, .bipush 8), (9, .ireturn), (10, .aload_n 0), (11, .iload_n 1), (12, .iconst 4), (13, .invokevirtual 133), (16, .istore_n 2), (17, .iload_n 2), (18, .ifCond .lt 14), (21, .aload_n 0), (22, .getfield 16), (25, .iload_n 2), (26, .iaload), (27, .iconst 2), (28, .iand), (29, .ifCond .ne 13), (32, .iload_n 2), (33, .ifCond .ge 7), (36, .iconst 1), (37, .goto 4), (40, .iconst 2), (41, .ireturn), (42, .aload_n 0), (43, .aload_n 0), (44, .getfield 13), (47, .iload_n 2), (48, .iaload), (49, .aload_n 0), (50, .getfield 19), (53, .iload_n 2), (54, .iaload), (55, .ifCond .ne 9), (58, .sipush 256), (61, .goto 9), (64, .aload_n 0), (65, .getfield 19), (68, .iload_n 2), (69, .iaload), (70, .invokevirtual 161), (73, .iconst 0), (74, .ireturn)]
/-- 103: CapTreeKernelModel.ring(II)V -/
def x_l103 : List (Nat × Instr) := [(0, .aload_n 0), (1, .iconst 5), (2, .iload_n 1), (3, .invokevirtual 148), (6, .istore_n 3), (7, .iload_n 3), (8, .ifCond .ge 22), (11, .aload_n 0), (12, .getfield 83), (15, .iload_n 1), (16, .iconst 2), (17, .idiv), (18, .aload_n 0), (19, .getfield 83), (22, .iload_n 1), (23, .iconst 2), (24, .idiv), (25, .iaload), (26, .iload_n 2), (27, .ior), (28, .iastore), (29, .return_), (30, .aload_n 0), (31, .iload_n 3), (32, .iload_n 2), (33, .invokevirtual 158), (36, .aload_n 0), (37, .iload_n 3), (38, .invokevirtual 103), (41, .return_)]
/-- 104: CapTreeKernelModel.hears(II)V -/
def x_l104 : List (Nat × Instr) := [(0, .aload_n 0), (1, .getfield 56), (4, .iload_n 1), (5, .iload_n 2), (6, .iastore), (7, .aload_n 0), (8, .getfield 59), (11, .iload_n 1), (12, .iconst 0), (13, .iastore), (14, .aload_n 0), (15, .getfield 62), (18, .iload_n 1), (19, .iconst 0), (20, .iastore), (21, .return_)]
/-- 105: CapTreeKernelModel.listen(IZ)I -/
def x_l105 : List (Nat × Instr) := [(0, .aload_n 0), (1, .invokevirtual 111), (4, .istore_n 3), (5, .iload_n 3), (6, .ifCond .ge 6), (9, .bipush 8), (11, .ireturn), (12, .aload_n 0), (13, .iload_n 1), (14, .iconst 4), (15, .invokevirtual 133), (18, .istore 4), (20, .iload 4), (22, .ifCond .lt 15), (25, .aload_n 0), (26, .getfield 16), (29, .iload 4), (31, .iaload), (32, .iconst 1), (33, .iand), (34, .ifCond .ne 14), (37, .iload 4), (39, .ifCond .ge 7), (42, .iconst 1), (43, .goto 4), (46, .iconst 2), (47, .ireturn), (48, .aload_n 0), (49, .getfield 13), (52, .iload 4), (54, .iaload), (55, .iconst 2), (56, .idiv), (57, .istore 5), (59, .aload_n 0), (60, .getfield 83), (63, .iload 5), (65, .iaload), (66, .ifCond .eq 25), (69, .aload_n 0), (70, .iload_n 3), (71, .aload_n 0), (72, .getfield 83), (75, .iload 5), (77, .iaload), (78, .invokevirtual 158), (81, .aload_n 0), (82, .getfield 83), (85, .iload 5), (87, .iconst 0), (88, .iastore), (89, .iconst 0), (90, .ireturn), (91, .iload_n 2), (92, .ifCond .eq 17), (95, .aload_n 0), (96, .iload_n 3), (97, .iconst 5), (98, .aload_n 0), (99, .getfield 13), (102, .iload 4), (104, .iaload), (105, .iconst (-1)), (106, .invokevirtual 151), (109, .iload_n 2), (110, .ifCond .eq 8), (113, .bipush 10), (115, .goto 5), (118, .bipush 6), (120, .ireturn)]
/-- 106: CapTreeKernelModel.map(III)I -/
def x_l106 : List (Nat × Instr) := [(0, .aload_n 0), (1, .invokevirtual 111), (4, .ifCond .ge 6), (7, .bipush 8), (9, .ireturn), (10, .aload_n 0), (11, .iload_n 1), (12, .iconst (-1)), (13, .invokevirtual 133), (16, .istore 4), (18, .aload_n 0), (19, .iload_n 2), (20, .iconst 5), (21, .invokevirtual 133), (24, .istore 5), (26, .iload 4), (28, .ifCond .lt 20), (31, .aload_n 0), (32, .getfield 7), (35, .iload 4), (37, .iaload), (38, .bipush 6), (40, .if_icmp .lt 8), (43, .iload 5), (45, .ifCond .ge 5), (48, .iconst 1), (49, .ireturn), (50, .iload_n 3), (51, .ifCond .lt 9), (54, .iload_n 3), (55, .bipush 15), (57, .if_icmp .le 5), (60, .iconst 4), (61, .ireturn), (62, .aload_n 0), (63, .aload_n 0), (64, .getfield 13), (67, .iload 5), (69, .iaload), (70, .iload_n 3), (71, .iconst 4), (72, .idiv), (73, .invokevirtual 164), (76, .istore 6), (78, .aload_n 0), (79, .getfield 7), (82, .iload 4), (84, .iaload), (85, .bipush 6), (87, .if_icmp .ne 69), (90, .aload_n 0), (91, .getfield 86), (94, .aload_n 0), (95, .getfield 13), (98, .iload 4), (100, .iaload), (101, .iconst 4), (102, .idiv), (103, .iaload), (104, .iconst (-1)), (105, .if_icmp .ne 8), (108, .iload 6), (110, .ifCond .lt 6), (113, .bipush 7), (115, .ireturn), (116, .aload_n 0), (117, .getfield 86), (120, .aload_n 0), (121, .getfield 13), (124, .iload 4), (126, .iaload), (127, .iconst 4), (128, .idiv), (129, .aload_n 0), (130, .getfield 13), (133, .iload 5), (135, .iaload), (136, .iastore), (137, .aload_n 0), (138, .getfield 89), (141, .aload_n 0), (142, .getfield 13), (145, .iload 4), (147, .iaload), (148, .iconst 4), (149, .idiv), (150, .iload_n 3), (151, .iconst 4), (152, .idiv), (153, .iastore), (154, .iconst 0), (155, .ireturn), (156, .aload_n 0), (157, .getfield 31), (160, .iload 4), (162, .iaload), (163, .iconst (-1)), (164, .if_icmp .ne 20), (167, .iload 6), (169, .ifCond .lt 15), (172, .aload_n 0), (173, .iload 6), (175, .iload_n 3), (176, .iconst 4), (177, .irem), (178, .invokevirtual 167), (181, .ifCond .lt 6), (184, .bipush 7), (186, .ireturn), (187, .aload_n 0), (188, .getfield 31), (191, .iload 4), (193, .iload 6), (195, .iastore), (196, .aload_n 0), (197, .getfield 34), (200, .iload 4), (202, .iload_n 3), (203, .iconst 4), (204, .irem), (205, .iastore), (206, .iconst 0), (207, .ireturn)]
/-- 107: CapTreeKernelModel.leafOf(II)I -/
def x_l107 : List (Nat × Instr) := [(0, .iconst 0), (1, .istore_n 3), (2, .iload_n 3), (3, .sipush 128), (6, .if_icmp .ge 45), (9, .aload_n 0), (10, .bipush 6), (12, .iload_n 3), (13, .invokevirtual 126), (16, .ifCond .eq 29), (19, .aload_n 0), (20, .getfield 86), (23, .iload_n 3), (24, .iconst 4), (25, .idiv), (26, .iaload), (27, .iload_n 1), (28, .if_icmp .ne 17), (31, .aload_n 0), (32, .getfield 89), (35, .iload_n 3), (36, .iconst 4), (37, .idiv), (38, .iaload), (39, .iload_n 2), (40, .if_icmp .ne 5), (43, .iload_n 3), (44, .ireturn), (45, .iinc 3 4), (48, .goto (-46)), (51, .iconst (-1)), (52, .ireturn)]
/-- 108: CapTreeKernelModel.there(II)Z -/
def x_l108 : List (Nat × Instr) := [(0, .iload_n 2), (1, .ifCond .lt 23), (4, .iload_n 2), (5, .sipush 128), (8, .if_icmp .ge 16), (11, .aload_n 0), (12, .iload_n 1), (13, .iload_n 2), (14, .invokevirtual 119), (17, .ifCond .le 7), (20, .iconst 1), (21, .goto 4), (24, .iconst 0), (25, .ireturn)]
/-- 109: CapTreeKernelModel.frameOf(II)I -/
def x_l109 : List (Nat × Instr) := [(0, .iconst 0), (1, .istore_n 3), (2, .iload_n 3), (3, .sipush 128), (6, .if_icmp .ge 42), (9, .aload_n 0), (10, .getfield 7), (13, .iload_n 3), (14, .iaload), (15, .bipush 7), (17, .if_icmp .ne 25), (20, .aload_n 0), (21, .getfield 31), (24, .iload_n 3), (25, .iaload), (26, .iload_n 1), (27, .if_icmp .ne 15), (30, .aload_n 0), (31, .getfield 34), (34, .iload_n 3), (35, .iaload), (36, .iload_n 2), (37, .if_icmp .ne 5), (40, .iload_n 3), (41, .ireturn), (42, .iinc 3 1), (45, .goto (-43)), (48, .iconst (-1)), (49, .ireturn)]
/-- 110: CapTreeKernelModel.unmap(I)I -/
def x_l110 : List (Nat × Instr) := [(0, .aload_n 0), (1, .invokevirtual 111), (4, .ifCond .ge 6), (7, .bipush 8), (9, .ireturn), (10, .aload_n 0), (11, .iload_n 1), (12, .iconst (-1)), (13, .invokevirtual 133), (16, .istore_n 2), (17, .iload_n 2), (18, .ifCond .lt 22), (21, .aload_n 0), (22, .getfield 7), (25, .iload_n 2), (26, .iaload), (27, .bipush 6), (29, .if_icmp .lt 11), (32, .aload_n 0), (33, .iload_n 2), (34, .invokevirtual 170), (37, .ifCond .ne 25), (40, .iload_n 2), (41, .ifCond .lt 14), (44, .aload_n 0), (45, .getfield 7), (48, .iload_n 2), (49, .iaload), (50, .bipush 6), (52, .if_icmp .ge 7), (55, .iconst 1), (56, .goto 5), (59, .bipush 7), (61, .ireturn), (62, .aload_n 0), (63, .getfield 7), (66, .iload_n 2), (67, .iaload), (68, .bipush 6), (70, .if_icmp .ne 20), (73, .aload_n 0), (74, .getfield 86), (77, .aload_n 0), (78, .getfield 13), (81, .iload_n 2), (82, .iaload), (83, .iconst 4), (84, .idiv), (85, .iconst (-1)), (86, .iastore), (87, .goto 10), (90, .aload_n 0), (91, .getfield 31), (94, .iload_n 2), (95, .iconst (-1)), (96, .iastore), (97, .iconst 0), (98, .ireturn)]
/-- 111: CapTreeKernelModel.mapped(I)Z -/
def x_l111 : List (Nat × Instr) := [(0, .aload_n 0), (1, .getfield 7), (4, .iload_n 1), (5, .iaload), (6, .bipush 6), (8, .if_icmp .ne 28), (11, .aload_n 0), (12, .getfield 86), (15, .aload_n 0), (16, .getfield 13), (19, .iload_n 1), (20, .iaload), (21, .iconst 4), (22, .idiv), (23, .iaload), (24, .iconst (-1)), (25, .if_icmp .eq 7), (28, .iconst 1), (29, .goto 33), (32, .iconst 0), (33, .goto 29), (36, .aload_n 0), (37, .getfield 7), (40, .iload_n 1), (41, .iaload), (42, .bipush 7), (44, .if_icmp .ne 17), (47, .aload_n 0), (48, .getfield 31), (51, .iload_n 1), (52, .iaload), (53, .iconst (-1)), (54, .if_icmp .eq 7), (57, .iconst 1), (58, .goto 4), (61, .iconst 0), (62, .ireturn)]
/-- 112: CapTreeKernelModel.bind(II)I -/
def x_l112 : List (Nat × Instr) := [(0, .aload_n 0), (1, .invokevirtual 111), (4, .ifCond .ge 6), (7, .bipush 8), (9, .ireturn), (10, .iload_n 1), (11, .ifCond .lt 8), (14, .iload_n 1), (15, .iconst 3), (16, .if_icmp .le 5), (19, .iconst 4), (20, .ireturn), (21, .aload_n 0), (22, .iload_n 2), (23, .iconst 4), (24, .invokevirtual 133), (27, .istore_n 3), (28, .iload_n 2), (29, .iconst (-1)), (30, .if_icmp .eq 9), (33, .iload_n 3), (34, .ifCond .ge 5), (37, .iconst 1), (38, .ireturn), (39, .aload_n 0), (40, .getfield 92), (43, .iload_n 1), (44, .iload_n 2), (45, .iconst (-1)), (46, .if_icmp .ne 7), (49, .iconst (-1)), (50, .goto 9), (53, .aload_n 0), (54, .getfield 13), (57, .iload_n 3), (58, .iaload), (59, .iastore), (60, .iconst 0), (61, .ireturn)]
/-- 113: CapTreeKernelModel.interrupt(I)I -/
def x_l113 : List (Nat × Instr) := [(0, .iload_n 1), (1, .ifCond .lt 18), (4, .iload_n 1), (5, .iconst 3), (6, .if_icmp .gt 13), (9, .aload_n 0), (10, .getfield 92), (13, .iload_n 1), (14, .iaload), (15, .iconst (-1)), (16, .if_icmp .ne 5), (19, .iconst 0), (20, .ireturn), (21, .aload_n 0), (22, .aload_n 0), (23, .getfield 92), (26, .iload_n 1), (27, .iaload), (28, .iconst 1), (29, .iload_n 1), (30, .ishl), (31, .invokevirtual 161), (34, .iconst 1), (35, .ireturn)]
/-- 114: CapTreeKernelModel.tick()I -/
def x_l114 : List (Nat × Instr) := [(0, .aload_n 0), (1, .invokevirtual 111), (4, .istore_n 1), (5, .iload_n 1), (6, .ifCond .ge 5), (9, .iconst (-1)), (10, .ireturn), (11, .aload_n 0), (12, .getfield 53), (15, .iload_n 1), (16, .dup2), (17, .iaload), (18, .iconst 1), (19, .isub), (20, .iastore), (21, .aload_n 0), (22, .getfield 53), (25, .iload_n 1), (26, .iaload), (27, .ifCond .ne 8), (30, .aload_n 0), (31, .iload_n 1), (32, .invokevirtual 103), (35, .aload_n 0), (36, .invokevirtual 174), (39, .ireturn)]
/-- 115: CapTreeKernelModel.current()I -/
def x_l115 : List (Nat × Instr) := [(0, .aload_n 0), (1, .invokevirtual 111), (4, .istore_n 1), (5, .iload_n 1), (6, .ifCond .ge 7), (9, .iconst (-1)), (10, .goto 7), (13, .bipush 8), (15, .iload_n 1), (16, .imul), (17, .ireturn)]
/-- 116: CapTreeKernelModel.slot(III)I -/
def x_l116 : List (Nat × Instr) := [(0, .aload_n 0), (1, .iconst 1), (2, .iload_n 1), (3, .invokevirtual 126), (6, .ifCond .eq 24), (9, .iload_n 2), (10, .ifCond .lt 20), (13, .iload_n 2), (14, .bipush 15), (16, .if_icmp .gt 14), (19, .aload_n 0), (20, .getfield 7), (23, .iload_n 1), (24, .iload_n 2), (25, .iadd), (26, .iaload), (27, .ifCond .ge 5), (30, .iconst (-1)), (31, .ireturn), (32, .iload_n 1), (33, .iload_n 2), (34, .iadd), (35, .istore 4), (37, .iload_n 3), (38, .tableswitch 179 0 7 #[46, 54, 62, 70, 78, 85, 126, 160]), (84, .aload_n 0), (85, .getfield 7), (88, .iload 4), (90, .iaload), (91, .ireturn), (92, .aload_n 0), (93, .getfield 13), (96, .iload 4), (98, .iaload), (99, .ireturn), (100, .aload_n 0), (101, .getfield 16), (104, .iload 4), (106, .iaload), (107, .ireturn), (108, .aload_n 0), (109, .getfield 19), (112, .iload 4), (114, .iaload), (115, .ireturn), (116, .aload_n 0), (117, .iload 4), (119, .invokevirtual 122), (122, .ireturn), (123, .aload_n 0), (124, .getfield 22), (127, .iload 4), (129, .iaload), (130, .iconst (-1)), (131, .if_icmp .ne 7), (134, .iconst (-1)), (135, .goto 28), (138, .sipush 256), (141, .aload_n 0), (142, .getfield 22), (145, .iload 4), (147, .iaload), (148, .bipush 16), (150, .idiv), (151, .imul), (152, .aload_n 0), (153, .getfield 22), (156, .iload 4), (158, .iaload), (159, .bipush 16), (161, .irem), (162, .iadd), (163, .ireturn), (164, .aload_n 0), (165, .getfield 7), (168, .iload 4), (170, .iaload), (171, .ifCond .ne 12), (174, .aload_n 0), (175, .iload 4), (177, .invokevirtual 142), (180, .goto 17), (183, .aload_n 0), (184, .iload 4), (186, .invokevirtual 170), (189, .ifCond .eq 7), (192, .iconst 1), (193, .goto 4), (196, .iconst 0), (197, .ireturn), (198, .aload_n 0), (199, .aload_n 0), (200, .getfield 7), (203, .iload 4), (205, .iaload), (206, .aload_n 0), (207, .getfield 13), (210, .iload 4), (212, .iaload), (213, .invokevirtual 119), (216, .ireturn), (217, .iconst (-1)), (218, .ireturn)]
/-- 117: CapTreeKernelModel.thread(II)I -/
def x_l117 : List (Nat × Instr) := [(0, .aload_n 0), (1, .iconst 2), (2, .iload_n 1), (3, .invokevirtual 126), (6, .ifCond .ne 5), (9, .iconst (-1)), (10, .ireturn), (11, .iload_n 1), (12, .bipush 8), (14, .idiv), (15, .istore_n 3), (16, .iload_n 2), (17, .tableswitch 103 0 7 #[47, 54, 61, 68, 75, 82, 89, 96]), (64, .aload_n 0), (65, .getfield 41), (68, .iload_n 3), (69, .iaload), (70, .ireturn), (71, .aload_n 0), (72, .getfield 50), (75, .iload_n 3), (76, .iaload), (77, .ireturn), (78, .aload_n 0), (79, .getfield 56), (82, .iload_n 3), (83, .iaload), (84, .ireturn), (85, .aload_n 0), (86, .getfield 59), (89, .iload_n 3), (90, .iaload), (91, .ireturn), (92, .aload_n 0), (93, .getfield 62), (96, .iload_n 3), (97, .iaload), (98, .ireturn), (99, .aload_n 0), (100, .getfield 53), (103, .iload_n 3), (104, .iaload), (105, .ireturn), (106, .aload_n 0), (107, .getfield 44), (110, .iload_n 3), (111, .iaload), (112, .ireturn), (113, .aload_n 0), (114, .getfield 47), (117, .iload_n 3), (118, .iaload), (119, .ireturn), (120, .iconst (-1)), (121, .ireturn)]
/-- 118: CapTreeKernelModel.page(II)I -/
def x_l118 : List (Nat × Instr) := [(0, .aload_n 0), (1, .iconst 2), (2, .iload_n 1), (3, .invokevirtual 126), (6, .ifCond .eq 26), (9, .iload_n 2), (10, .ifCond .lt 22), (13, .iload_n 2), (14, .bipush 15), (16, .if_icmp .gt 16), (19, .aload_n 0), (20, .getfield 47), (23, .iload_n 1), (24, .bipush 8), (26, .idiv), (27, .iaload), (28, .iconst (-1)), (29, .if_icmp .ne 5), (32, .iconst (-1)), (33, .ireturn), (34, .aload_n 0), (35, .aload_n 0), (36, .getfield 47), (39, .iload_n 1), (40, .bipush 8), (42, .idiv), (43, .iaload), (44, .iload_n 2), (45, .iconst 4), (46, .idiv), (47, .invokevirtual 164), (50, .istore_n 3), (51, .iload_n 3), (52, .ifCond .ge 7), (55, .iconst (-1)), (56, .goto 11), (59, .aload_n 0), (60, .iload_n 3), (61, .iload_n 2), (62, .iconst 4), (63, .irem), (64, .invokevirtual 167), (67, .istore 4), (69, .iload 4), (71, .ifCond .ge 7), (74, .iconst (-1)), (75, .goto 22), (78, .aload_n 0), (79, .getfield 13), (82, .iload 4), (84, .iaload), (85, .sipush 128), (88, .aload_n 0), (89, .getfield 16), (92, .iload 4), (94, .iaload), (95, .imul), (96, .iadd), (97, .ireturn)]
/-- 119: CapTreeKernelLaw.law([I)Z -/
def x_l119_0 : List (Nat × Instr) := [(0, .new 7), (3, .dup), (4, .invokespecial 9), (7, .astore_n 1), (8, .new 10), (11, .dup), (12, .invokespecial 12), (15, .astore_n 2), (16, .iconst 0), (17, .istore_n 3), (18, .iload_n 3), (19, .aload_n 0), (20, .arraylength), (21, .iconst 5), (22, .isub), (23, .if_icmp .gt 855), (26, .aload_n 0), (27, .iload_n 3), (28, .iaload), (29, .bipush 31), (31, .iand), (32, .tableswitch 840 0 19 #[96, 149, 202, 235, 258, 281, 334, 383, 452, 511, 534, 583, 626, 649, 682, 705, 718, 731, 774, 807]), (128, .aload_n 1), (129, .aload_n 0), (130, .iload_n 3), (131, .iconst 1), (132, .iadd), (133, .iaload), (134, .aload_n 0), (135, .iload_n 3), (136, .iconst 2), (137, .iadd), (138, .iaload), (139, .aload_n 0), (140, .iload_n 3), (141, .iconst 3), (142, .iadd), (143, .iaload), (144, .aload_n 0), (145, .iload_n 3)]
def x_l119_1 : List (Nat × Instr) := [(146, .iconst 4), (147, .iadd), (148, .iaload), (149, .invokevirtual 13), (152, .aload_n 2), (153, .aload_n 0), (154, .iload_n 3), (155, .iconst 1), (156, .iadd), (157, .iaload), (158, .aload_n 0), (159, .iload_n 3), (160, .iconst 2), (161, .iadd), (162, .iaload), (163, .aload_n 0), (164, .iload_n 3), (165, .iconst 3), (166, .iadd), (167, .iaload), (168, .aload_n 0), (169, .iload_n 3), (170, .iconst 4), (171, .iadd), (172, .iaload), (173, .invokevirtual 17), (176, .if_icmp .eq 696), (179, .iconst 0), (180, .ireturn), (181, .aload_n 1), (182, .aload_n 0), (183, .iload_n 3), (184, .iconst 1), (185, .iadd), (186, .iaload), (187, .aload_n 0), (188, .iload_n 3), (189, .iconst 2), (190, .iadd), (191, .iaload)]
def x_l119_2 : List (Nat × Instr) := [(192, .aload_n 0), (193, .iload_n 3), (194, .iconst 3), (195, .iadd), (196, .iaload), (197, .aload_n 0), (198, .iload_n 3), (199, .iconst 4), (200, .iadd), (201, .iaload), (202, .invokevirtual 18), (205, .aload_n 2), (206, .aload_n 0), (207, .iload_n 3), (208, .iconst 1), (209, .iadd), (210, .iaload), (211, .aload_n 0), (212, .iload_n 3), (213, .iconst 2), (214, .iadd), (215, .iaload), (216, .aload_n 0), (217, .iload_n 3), (218, .iconst 3), (219, .iadd), (220, .iaload), (221, .aload_n 0), (222, .iload_n 3), (223, .iconst 4), (224, .iadd), (225, .iaload), (226, .invokevirtual 21), (229, .if_icmp .eq 643), (232, .iconst 0), (233, .ireturn), (234, .aload_n 1), (235, .aload_n 0), (236, .iload_n 3), (237, .iconst 1)]
def x_l119_3 : List (Nat × Instr) := [(238, .iadd), (239, .iaload), (240, .aload_n 0), (241, .iload_n 3), (242, .iconst 2), (243, .iadd), (244, .iaload), (245, .invokevirtual 22), (248, .aload_n 2), (249, .aload_n 0), (250, .iload_n 3), (251, .iconst 1), (252, .iadd), (253, .iaload), (254, .aload_n 0), (255, .iload_n 3), (256, .iconst 2), (257, .iadd), (258, .iaload), (259, .invokevirtual 26), (262, .if_icmp .eq 610), (265, .iconst 0), (266, .ireturn), (267, .aload_n 1), (268, .aload_n 0), (269, .iload_n 3), (270, .iconst 1), (271, .iadd), (272, .iaload), (273, .invokevirtual 27), (276, .aload_n 2), (277, .aload_n 0), (278, .iload_n 3), (279, .iconst 1), (280, .iadd), (281, .iaload), (282, .invokevirtual 31), (285, .if_icmp .eq 587), (288, .iconst 0), (289, .ireturn)]
def x_l119_4 : List (Nat × Instr) := [(290, .aload_n 1), (291, .aload_n 0), (292, .iload_n 3), (293, .iconst 1), (294, .iadd), (295, .iaload), (296, .invokevirtual 32), (299, .aload_n 2), (300, .aload_n 0), (301, .iload_n 3), (302, .iconst 1), (303, .iadd), (304, .iaload), (305, .invokevirtual 35), (308, .if_icmp .eq 564), (311, .iconst 0), (312, .ireturn), (313, .aload_n 1), (314, .aload_n 0), (315, .iload_n 3), (316, .iconst 1), (317, .iadd), (318, .iaload), (319, .aload_n 0), (320, .iload_n 3), (321, .iconst 2), (322, .iadd), (323, .iaload), (324, .aload_n 0), (325, .iload_n 3), (326, .iconst 3), (327, .iadd), (328, .iaload), (329, .aload_n 0), (330, .iload_n 3), (331, .iconst 4), (332, .iadd), (333, .iaload), (334, .invokevirtual 36), (337, .aload_n 2)]
def x_l119_5 : List (Nat × Instr) := [(338, .aload_n 0), (339, .iload_n 3), (340, .iconst 1), (341, .iadd), (342, .iaload), (343, .aload_n 0), (344, .iload_n 3), (345, .iconst 2), (346, .iadd), (347, .iaload), (348, .aload_n 0), (349, .iload_n 3), (350, .iconst 3), (351, .iadd), (352, .iaload), (353, .aload_n 0), (354, .iload_n 3), (355, .iconst 4), (356, .iadd), (357, .iaload), (358, .invokevirtual 39), (361, .if_icmp .eq 511), (364, .iconst 0), (365, .ireturn), (366, .aload_n 1), (367, .aload_n 0), (368, .iload_n 3), (369, .iconst 1), (370, .iadd), (371, .iaload), (372, .aload_n 0), (373, .iload_n 3), (374, .iconst 2), (375, .iadd), (376, .iaload), (377, .ifCond .eq 7), (380, .iconst 1), (381, .goto 4), (384, .iconst 0), (385, .invokevirtual 40)]
def x_l119_6 : List (Nat × Instr) := [(388, .aload_n 2), (389, .aload_n 0), (390, .iload_n 3), (391, .iconst 1), (392, .iadd), (393, .iaload), (394, .aload_n 0), (395, .iload_n 3), (396, .iconst 2), (397, .iadd), (398, .iaload), (399, .ifCond .eq 7), (402, .iconst 1), (403, .goto 4), (406, .iconst 0), (407, .invokevirtual 44), (410, .if_icmp .eq 462), (413, .iconst 0), (414, .ireturn), (415, .aload_n 1), (416, .aload_n 0), (417, .iload_n 3), (418, .iconst 1), (419, .iadd), (420, .iaload), (421, .aload_n 0), (422, .iload_n 3), (423, .iconst 2), (424, .iadd), (425, .iaload), (426, .aload_n 0), (427, .iload_n 3), (428, .iconst 3), (429, .iadd), (430, .iaload), (431, .aload_n 0), (432, .iload_n 3), (433, .iconst 4), (434, .iadd), (435, .iaload)]
def x_l119_7 : List (Nat × Instr) := [(436, .ifCond .eq 7), (439, .iconst 1), (440, .goto 4), (443, .iconst 0), (444, .invokevirtual 45), (447, .aload_n 2), (448, .aload_n 0), (449, .iload_n 3), (450, .iconst 1), (451, .iadd), (452, .iaload), (453, .aload_n 0), (454, .iload_n 3), (455, .iconst 2), (456, .iadd), (457, .iaload), (458, .aload_n 0), (459, .iload_n 3), (460, .iconst 3), (461, .iadd), (462, .iaload), (463, .aload_n 0), (464, .iload_n 3), (465, .iconst 4), (466, .iadd), (467, .iaload), (468, .ifCond .eq 7), (471, .iconst 1), (472, .goto 4), (475, .iconst 0), (476, .invokevirtual 49), (479, .if_icmp .eq 393), (482, .iconst 0), (483, .ireturn), (484, .aload_n 1), (485, .aload_n 0), (486, .iload_n 3), (487, .iconst 1), (488, .iadd), (489, .iaload)]
def x_l119_8 : List (Nat × Instr) := [(490, .aload_n 0), (491, .iload_n 3), (492, .iconst 2), (493, .iadd), (494, .iaload), (495, .aload_n 0), (496, .iload_n 3), (497, .iconst 3), (498, .iadd), (499, .iaload), (500, .ifCond .eq 7), (503, .iconst 1), (504, .goto 4), (507, .iconst 0), (508, .invokevirtual 50), (511, .aload_n 2), (512, .aload_n 0), (513, .iload_n 3), (514, .iconst 1), (515, .iadd), (516, .iaload), (517, .aload_n 0), (518, .iload_n 3), (519, .iconst 2), (520, .iadd), (521, .iaload), (522, .aload_n 0), (523, .iload_n 3), (524, .iconst 3), (525, .iadd), (526, .iaload), (527, .ifCond .eq 7), (530, .iconst 1), (531, .goto 4), (534, .iconst 0), (535, .invokevirtual 54), (538, .if_icmp .eq 334), (541, .iconst 0), (542, .ireturn), (543, .aload_n 1)]
def x_l119_9 : List (Nat × Instr) := [(544, .aload_n 0), (545, .iload_n 3), (546, .iconst 1), (547, .iadd), (548, .iaload), (549, .invokevirtual 55), (552, .aload_n 2), (553, .aload_n 0), (554, .iload_n 3), (555, .iconst 1), (556, .iadd), (557, .iaload), (558, .invokevirtual 58), (561, .if_icmp .eq 311), (564, .iconst 0), (565, .ireturn), (566, .aload_n 1), (567, .aload_n 0), (568, .iload_n 3), (569, .iconst 1), (570, .iadd), (571, .iaload), (572, .aload_n 0), (573, .iload_n 3), (574, .iconst 2), (575, .iadd), (576, .iaload), (577, .ifCond .eq 7), (580, .iconst 1), (581, .goto 4), (584, .iconst 0), (585, .invokevirtual 59), (588, .aload_n 2), (589, .aload_n 0), (590, .iload_n 3), (591, .iconst 1), (592, .iadd), (593, .iaload), (594, .aload_n 0), (595, .iload_n 3)]
def x_l119_10 : List (Nat × Instr) := [(596, .iconst 2), (597, .iadd), (598, .iaload), (599, .ifCond .eq 7), (602, .iconst 1), (603, .goto 4), (606, .iconst 0), (607, .invokevirtual 62), (610, .if_icmp .eq 262), (613, .iconst 0), (614, .ireturn), (615, .aload_n 1), (616, .aload_n 0), (617, .iload_n 3), (618, .iconst 1), (619, .iadd), (620, .iaload), (621, .aload_n 0), (622, .iload_n 3), (623, .iconst 2), (624, .iadd), (625, .iaload), (626, .aload_n 0), (627, .iload_n 3), (628, .iconst 3), (629, .iadd), (630, .iaload), (631, .invokevirtual 63), (634, .aload_n 2), (635, .aload_n 0), (636, .iload_n 3), (637, .iconst 1), (638, .iadd), (639, .iaload), (640, .aload_n 0), (641, .iload_n 3), (642, .iconst 2), (643, .iadd), (644, .iaload), (645, .aload_n 0)]
def x_l119_11 : List (Nat × Instr) := [(646, .iload_n 3), (647, .iconst 3), (648, .iadd), (649, .iaload), (650, .invokevirtual 67), (653, .if_icmp .eq 219), (656, .iconst 0), (657, .ireturn), (658, .aload_n 1), (659, .aload_n 0), (660, .iload_n 3), (661, .iconst 1), (662, .iadd), (663, .iaload), (664, .invokevirtual 68), (667, .aload_n 2), (668, .aload_n 0), (669, .iload_n 3), (670, .iconst 1), (671, .iadd), (672, .iaload), (673, .invokevirtual 71), (676, .if_icmp .eq 196), (679, .iconst 0), (680, .ireturn), (681, .aload_n 1), (682, .aload_n 0), (683, .iload_n 3), (684, .iconst 1), (685, .iadd), (686, .iaload), (687, .aload_n 0), (688, .iload_n 3), (689, .iconst 2), (690, .iadd), (691, .iaload), (692, .invokevirtual 72), (695, .aload_n 2), (696, .aload_n 0), (697, .iload_n 3)]
def x_l119_12 : List (Nat × Instr) := [(698, .iconst 1), (699, .iadd), (700, .iaload), (701, .aload_n 0), (702, .iload_n 3), (703, .iconst 2), (704, .iadd), (705, .iaload), (706, .invokevirtual 75), (709, .if_icmp .eq 163), (712, .iconst 0), (713, .ireturn), (714, .aload_n 1), (715, .aload_n 0), (716, .iload_n 3), (717, .iconst 1), (718, .iadd), (719, .iaload), (720, .invokevirtual 76), (723, .aload_n 2), (724, .aload_n 0), (725, .iload_n 3), (726, .iconst 1), (727, .iadd), (728, .iaload), (729, .invokevirtual 79), (732, .if_icmp .eq 140), (735, .iconst 0), (736, .ireturn), (737, .aload_n 1), (738, .invokevirtual 80), (741, .aload_n 2), (742, .invokevirtual 84), (745, .if_icmp .eq 127), (748, .iconst 0), (749, .ireturn), (750, .aload_n 1), (751, .invokevirtual 85), (754, .aload_n 2), (755, .invokevirtual 88)]
def x_l119_13 : List (Nat × Instr) := [(758, .if_icmp .eq 114), (761, .iconst 0), (762, .ireturn), (763, .aload_n 1), (764, .aload_n 0), (765, .iload_n 3), (766, .iconst 1), (767, .iadd), (768, .iaload), (769, .aload_n 0), (770, .iload_n 3), (771, .iconst 2), (772, .iadd), (773, .iaload), (774, .aload_n 0), (775, .iload_n 3), (776, .iconst 3), (777, .iadd), (778, .iaload), (779, .invokevirtual 89), (782, .aload_n 2), (783, .aload_n 0), (784, .iload_n 3), (785, .iconst 1), (786, .iadd), (787, .iaload), (788, .aload_n 0), (789, .iload_n 3), (790, .iconst 2), (791, .iadd), (792, .iaload), (793, .aload_n 0), (794, .iload_n 3), (795, .iconst 3), (796, .iadd), (797, .iaload), (798, .invokevirtual 92), (801, .if_icmp .eq 71), (804, .iconst 0), (805, .ireturn)]
def x_l119_14 : List (Nat × Instr) := [(806, .aload_n 1), (807, .aload_n 0), (808, .iload_n 3), (809, .iconst 1), (810, .iadd), (811, .iaload), (812, .aload_n 0), (813, .iload_n 3), (814, .iconst 2), (815, .iadd), (816, .iaload), (817, .invokevirtual 93), (820, .aload_n 2), (821, .aload_n 0), (822, .iload_n 3), (823, .iconst 1), (824, .iadd), (825, .iaload), (826, .aload_n 0), (827, .iload_n 3), (828, .iconst 2), (829, .iadd), (830, .iaload), (831, .invokevirtual 96), (834, .if_icmp .eq 38), (837, .iconst 0), (838, .ireturn), (839, .aload_n 1), (840, .aload_n 0), (841, .iload_n 3), (842, .iconst 1), (843, .iadd), (844, .iaload), (845, .aload_n 0), (846, .iload_n 3), (847, .iconst 2), (848, .iadd), (849, .iaload), (850, .invokevirtual 97), (853, .aload_n 2)]
def x_l119_15 : List (Nat × Instr) := [(854, .aload_n 0), (855, .iload_n 3), (856, .iconst 1), (857, .iadd), (858, .iaload), (859, .aload_n 0), (860, .iload_n 3), (861, .iconst 2), (862, .iadd), (863, .iaload), (864, .invokevirtual 100), (867, .if_icmp .eq 5), (870, .iconst 0), (871, .ireturn), (872, .iinc 3 5), (875, .goto (-857)), (878, .iconst 1), (879, .ireturn)]
def x_l119 : List (Nat × Instr) := x_l119_0 ++ (x_l119_1 ++ (x_l119_2 ++ (x_l119_3 ++ (x_l119_4 ++ (x_l119_5 ++ (x_l119_6 ++ (x_l119_7 ++ (x_l119_8 ++ (x_l119_9 ++ (x_l119_10 ++ (x_l119_11 ++ (x_l119_12 ++ (x_l119_13 ++ (x_l119_14 ++ (x_l119_15)))))))))))))))
def x_cl : List (List (Nat × Instr)) := [x_l0, x_l1, x_l2, x_l3, x_l4, x_l5, x_l6, x_l7, x_l8, x_l9, x_l10, x_l11, x_l12, x_l13, x_l14, x_l15, x_l16, x_l17, x_l18, x_l19, x_l20, x_l21, x_l22, x_l23, x_l24, x_l25, x_l26, x_l27, x_l28, x_l29, x_l30, x_l31, x_l32, x_l33, x_l34, x_l35, x_l36, x_l37, x_l38, x_l39, x_l40, x_l41, x_l42, x_l43, x_l44, x_l45, x_l46, x_l47, x_l48, x_l49, x_l50, x_l51, x_l52, x_l53, x_l54, x_l55, x_l56, x_l57, x_l58, x_l59, x_l60, x_l61, x_l62, x_l63, x_l64, x_l65, x_l66, x_l67, x_l68, x_l69, x_l70, x_l71, x_l72, x_l73, x_l74, x_l75, x_l76, x_l77, x_l78, x_l79, x_l80, x_l81, x_l82, x_l83, x_l84, x_l85, x_l86, x_l87, x_l88, x_l89, x_l90, x_l91, x_l92, x_l93, x_l94, x_l95, x_l96, x_l97, x_l98, x_l99, x_l100, x_l101, x_l102, x_l103, x_l104, x_l105, x_l106, x_l107, x_l108, x_l109, x_l110, x_l111, x_l112, x_l113, x_l114, x_l115, x_l116, x_l117, x_l118, x_l119]
def x_ct (mi pc : Nat) : Option Instr := (x_cl.getD mi []).lookup pc
/-! pool entries by (own class, number) -/
def x_FL : List ((Nat × Nat) × Nat × List Nat × Nat × Nat × String) := [
  ((0, 11), 0, [0], 2, 1, "CapTreeKernel"),
  ((0, 17), 1, [0], 2, 1, "CapTreeKernel"),
  ((0, 23), 3, [0], 2, 1, "CapTreeKernel"),
  ((0, 29), 2, [0], 2, 1, "CapTreeKernel"),
  ((0, 40), 2, [2], 2, 0, "CapTreeKernel$KernelThread"),
  ((0, 44), 4, [2], 0, 0, "CapTreeKernel$KernelThread"),
  ((0, 48), 1, [2], 0, 2, "CapTreeKernel$KernelThread"),
  ((0, 75), 0, [1], 2, 2, "CapTreeKernel$Capability"),
  ((0, 99), 1, [4], 0, 2, "CapTreeKernel$Untyped"),
  ((0, 100), 2, [4], 0, 2, "CapTreeKernel$Untyped"),
  ((0, 103), 3, [4], 0, 0, "CapTreeKernel$Untyped"),
  ((0, 110), 0, [2, 4, 5, 6, 7, 8, 9, 10], 0, 2, "CapTreeKernel$Thing"),
  ((0, 115), 2, [1], 0, 2, "CapTreeKernel$Capability"),
  ((0, 118), 1, [1], 0, 2, "CapTreeKernel$Capability"),
  ((0, 121), 4, [1], 0, 0, "CapTreeKernel$Capability"),
  ((0, 124), 7, [1], 1, 0, "CapTreeKernel$Capability"),
  ((0, 147), 3, [2], 2, 0, "CapTreeKernel$KernelThread"),
  ((0, 158), 5, [2], 0, 0, "CapTreeKernel$KernelThread"),
  ((0, 163), 2, [6], 2, 2, "CapTreeKernel$Gate"),
  ((0, 171), 12, [2], 0, 0, "CapTreeKernel$KernelThread"),
  ((0, 174), 13, [2], 0, 0, "CapTreeKernel$KernelThread"),
  ((0, 177), 14, [2], 1, 0, "CapTreeKernel$KernelThread"),
  ((0, 180), 15, [2], 0, 0, "CapTreeKernel$KernelThread"),
  ((0, 195), 3, [7], 0, 0, "CapTreeKernel$Bell"),
  ((0, 201), 2, [7], 2, 2, "CapTreeKernel$Bell"),
  ((0, 211), 2, [8], 2, 2, "CapTreeKernel$Space"),
  ((0, 237), 6, [2], 0, 0, "CapTreeKernel$KernelThread"),
  ((0, 244), 1, [2, 4, 5, 6, 7, 8, 9, 10], 0, 2, "CapTreeKernel$Thing"),
  ((0, 249), 3, [1], 2, 0, "CapTreeKernel$Capability"),
  ((0, 266), 7, [2], 0, 0, "CapTreeKernel$KernelThread"),
  ((0, 267), 8, [2], 0, 0, "CapTreeKernel$KernelThread"),
  ((0, 268), 9, [2], 0, 0, "CapTreeKernel$KernelThread"),
  ((0, 271), 4, [9], 2, 2, "CapTreeKernel$Leaf"),
  ((0, 274), 1, [5], 0, 2, "CapTreeKernel$Table"),
  ((0, 311), 10, [2], 2, 0, "CapTreeKernel$KernelThread"),
  ((0, 314), 0, [3], 2, 0, "CapTreeKernel$ThreadLine"),
  ((0, 322), 1, [3], 2, 0, "CapTreeKernel$ThreadLine"),
  ((0, 325), 11, [2], 2, 0, "CapTreeKernel$KernelThread"),
  ((0, 332), 2, [9], 2, 0, "CapTreeKernel$Leaf"),
  ((0, 333), 3, [9], 0, 0, "CapTreeKernel$Leaf"),
  ((0, 336), 5, [1], 2, 0, "CapTreeKernel$Capability"),
  ((0, 340), 6, [1], 0, 0, "CapTreeKernel$Capability"),
  ((1, 7), 0, [1], 2, 1, "CapTreeKernel$Capability"),
  ((1, 13), 1, [1], 0, 1, "CapTreeKernel$Capability"),
  ((1, 17), 2, [1], 0, 1, "CapTreeKernel$Capability"),
  ((1, 20), 3, [1], 2, 0, "CapTreeKernel$Capability"),
  ((2, 9), 5, [2], 0, 0, "CapTreeKernel$KernelThread"),
  ((2, 15), 7, [2], 0, 0, "CapTreeKernel$KernelThread"),
  ((2, 18), 8, [2], 0, 0, "CapTreeKernel$KernelThread"),
  ((2, 21), 9, [2], 0, 0, "CapTreeKernel$KernelThread"),
  ((4, 9), 2, [4], 0, 1, "CapTreeKernel$Untyped"),
  ((6, 14), 2, [6], 2, 1, "CapTreeKernel$Gate"),
  ((7, 14), 2, [7], 2, 1, "CapTreeKernel$Bell"),
  ((8, 11), 2, [8], 2, 1, "CapTreeKernel$Space"),
  ((9, 11), 4, [9], 2, 1, "CapTreeKernel$Leaf"),
  ((11, 7), 0, [11], 2, 1, "CapTreeKernelModel"),
  ((11, 13), 1, [11], 2, 1, "CapTreeKernelModel"),
  ((11, 16), 2, [11], 2, 1, "CapTreeKernelModel"),
  ((11, 19), 3, [11], 2, 1, "CapTreeKernelModel"),
  ((11, 22), 4, [11], 2, 1, "CapTreeKernelModel"),
  ((11, 25), 5, [11], 2, 1, "CapTreeKernelModel"),
  ((11, 28), 6, [11], 2, 1, "CapTreeKernelModel"),
  ((11, 31), 7, [11], 2, 1, "CapTreeKernelModel"),
  ((11, 34), 8, [11], 2, 1, "CapTreeKernelModel"),
  ((11, 37), 9, [11], 2, 1, "CapTreeKernelModel"),
  ((11, 41), 10, [11], 2, 1, "CapTreeKernelModel"),
  ((11, 44), 11, [11], 2, 1, "CapTreeKernelModel"),
  ((11, 47), 12, [11], 2, 1, "CapTreeKernelModel"),
  ((11, 50), 13, [11], 2, 1, "CapTreeKernelModel"),
  ((11, 53), 14, [11], 2, 1, "CapTreeKernelModel"),
  ((11, 56), 15, [11], 2, 1, "CapTreeKernelModel"),
  ((11, 59), 16, [11], 2, 1, "CapTreeKernelModel"),
  ((11, 62), 17, [11], 2, 1, "CapTreeKernelModel"),
  ((11, 65), 18, [11], 2, 1, "CapTreeKernelModel"),
  ((11, 68), 19, [11], 2, 1, "CapTreeKernelModel"),
  ((11, 71), 20, [11], 2, 1, "CapTreeKernelModel"),
  ((11, 74), 21, [11], 2, 1, "CapTreeKernelModel"),
  ((11, 77), 22, [11], 2, 1, "CapTreeKernelModel"),
  ((11, 80), 23, [11], 2, 1, "CapTreeKernelModel"),
  ((11, 83), 24, [11], 2, 1, "CapTreeKernelModel"),
  ((11, 86), 25, [11], 2, 1, "CapTreeKernelModel"),
  ((11, 89), 26, [11], 2, 1, "CapTreeKernelModel"),
  ((11, 92), 27, [11], 2, 1, "CapTreeKernelModel"),
  ((11, 107), 28, [11], 0, 0, "CapTreeKernelModel"),
  ((12, 7), 0, [2, 4, 5, 6, 7, 8, 9, 10], 0, 1, "CapTreeKernel$Thing"),
  ((12, 13), 1, [2, 4, 5, 6, 7, 8, 9, 10], 0, 1, "CapTreeKernel$Thing")]
def x_tF (o i : Nat) : Option (Nat × List Nat × Nat × Nat) := match x_FL.lookup (o, i) with
  | some (k, cs, kd, fin, _) => some (k, cs, kd, fin)
  | none => none
def x_NL : List ((Nat × Nat) × Nat) := [((0, 9), 1), ((0, 15), 2), ((0, 21), 7), ((0, 27), 3), ((0, 34), 5), ((0, 62), 4), ((0, 161), 6), ((0, 205), 9), ((0, 212), 8), ((0, 279), 10), ((6, 9), 3), ((7, 9), 3), ((13, 7), 0), ((13, 10), 11)]
def x_tN (o i : Nat) : Option Nat := x_NL.lookup (o, i)
def x_AL : List ((Nat × Nat) × Nat) := [((0, 9), 1), ((0, 15), 2), ((0, 21), 7), ((0, 27), 3), ((8, 9), 9), ((9, 9), 1)]
def x_tA (o i : Nat) : Option Nat := x_AL.lookup (o, i)
def x_CL : List ((Nat × Nat) × Nat) := [((0, 15), 2), ((0, 21), 7), ((0, 34), 5), ((0, 62), 4), ((0, 161), 6), ((0, 205), 9), ((0, 212), 8)]
def x_tC (o i : Nat) : Option Nat := x_CL.lookup (o, i)
def x_tG (o i : Nat) : Bool := [(0, 87)].contains (o, i)
/-- 0 virtual, 1 <init>, 2 static, 3 Object.<init>, 4 a private <init> of a nest mate -/
def x_ML : List ((Nat × Nat) × Nat × Nat) := [
  ((0, 1), 3, 999),
  ((0, 33), 4, 1),
  ((0, 36), 1, 2),
  ((0, 39), 1, 4),
  ((0, 51), 0, 5),
  ((0, 55), 1, 8),
  ((0, 58), 0, 9),
  ((0, 64), 1, 10),
  ((0, 67), 0, 12),
  ((0, 71), 0, 13),
  ((0, 79), 0, 14),
  ((0, 83), 0, 15),
  ((0, 91), 0, 16),
  ((0, 95), 2, 18),
  ((0, 106), 0, 19),
  ((0, 128), 0, 28),
  ((0, 131), 2, 41),
  ((0, 135), 0, 43),
  ((0, 139), 0, 44),
  ((0, 143), 0, 45),
  ((0, 151), 0, 46),
  ((0, 155), 2, 35),
  ((0, 167), 2, 49),
  ((0, 183), 2, 50),
  ((0, 187), 0, 51),
  ((0, 191), 0, 55),
  ((0, 198), 0, 56),
  ((0, 202), 0, 59),
  ((0, 207), 2, 60),
  ((0, 217), 2, 61),
  ((0, 221), 2, 63),
  ((0, 225), 2, 38),
  ((0, 229), 2, 30),
  ((0, 233), 0, 65),
  ((0, 240), 2, 68),
  ((0, 245), 0, 17),
  ((0, 253), 2, 71),
  ((0, 256), 0, 72),
  ((0, 259), 0, 31),
  ((0, 262), 0, 74),
  ((0, 275), 1, 20),
  ((0, 276), 1, 21),
  ((0, 277), 1, 22),
  ((0, 278), 1, 23),
  ((0, 281), 1, 24),
  ((0, 282), 0, 29),
  ((0, 285), 0, 32),
  ((0, 289), 0, 33),
  ((0, 293), 2, 6),
  ((0, 296), 0, 34),
  ((0, 300), 0, 36),
  ((0, 304), 0, 37),
  ((0, 308), 2, 39),
  ((0, 318), 2, 7),
  ((0, 328), 0, 52),
  ((1, 1), 3, 999),
  ((2, 3), 1, 3),
  ((3, 1), 3, 999),
  ((4, 3), 1, 3),
  ((5, 3), 1, 3),
  ((6, 3), 1, 3),
  ((6, 11), 4, 1),
  ((7, 3), 1, 3),
  ((7, 11), 4, 1),
  ((8, 3), 1, 3),
  ((9, 3), 1, 3),
  ((10, 3), 1, 3),
  ((11, 1), 3, 999),
  ((11, 95), 0, 77),
  ((11, 99), 0, 78),
  ((11, 103), 0, 79),
  ((11, 111), 0, 81),
  ((11, 115), 0, 83),
  ((11, 119), 0, 93),
  ((11, 122), 0, 87),
  ((11, 126), 0, 108),
  ((11, 130), 0, 92),
  ((11, 133), 0, 82),
  ((11, 136), 0, 84),
  ((11, 139), 2, 85),
  ((11, 142), 0, 86),
  ((11, 145), 0, 91),
  ((11, 148), 0, 98),
  ((11, 151), 0, 99),
  ((11, 155), 0, 100),
  ((11, 158), 0, 104),
  ((11, 161), 0, 103),
  ((11, 164), 0, 107),
  ((11, 167), 0, 109),
  ((11, 170), 0, 111),
  ((11, 174), 0, 115),
  ((12, 1), 3, 999),
  ((13, 9), 1, 0),
  ((13, 12), 1, 76),
  ((13, 13), 0, 11),
  ((13, 17), 0, 80),
  ((13, 18), 0, 25),
  ((13, 21), 0, 88),
  ((13, 22), 0, 26),
  ((13, 26), 0, 89),
  ((13, 27), 0, 27),
  ((13, 31), 0, 90),
  ((13, 32), 0, 40),
  ((13, 35), 0, 94),
  ((13, 36), 0, 42),
  ((13, 39), 0, 95),
  ((13, 40), 0, 47),
  ((13, 44), 0, 96),
  ((13, 45), 0, 48),
  ((13, 49), 0, 97),
  ((13, 50), 0, 53),
  ((13, 54), 0, 101),
  ((13, 55), 0, 54),
  ((13, 58), 0, 102),
  ((13, 59), 0, 57),
  ((13, 62), 0, 105),
  ((13, 63), 0, 58),
  ((13, 67), 0, 106),
  ((13, 68), 0, 62),
  ((13, 71), 0, 110),
  ((13, 72), 0, 64),
  ((13, 75), 0, 112),
  ((13, 76), 0, 66),
  ((13, 79), 0, 113),
  ((13, 80), 0, 67),
  ((13, 84), 0, 114),
  ((13, 85), 0, 69),
  ((13, 88), 0, 115),
  ((13, 89), 0, 70),
  ((13, 92), 0, 116),
  ((13, 93), 0, 73),
  ((13, 96), 0, 117),
  ((13, 97), 0, 75),
  ((13, 100), 0, 118)]
def x_tM (o i : Nat) : Option (Nat × Nat) := x_ML.lookup (o, i)
def x_nestL : List (Nat × Nat × Nat) := [(0, 33, 1), (6, 11, 1), (7, 11, 1)]
def x_len : Instr → Option Nat
  | .aaload => some 1
  | .aastore => some 1
  | .aconst_null => some 1
  | .areturn => some 1
  | .arraylength => some 1
  | .baload => some 1
  | .bastore => some 1
  | .dup => some 1
  | .dup_x1 => some 1
  | .dup2 => some 1
  | .pop => some 1
  | .iadd => some 1
  | .iaload => some 1
  | .iand => some 1
  | .iastore => some 1
  | .idiv => some 1
  | .imul => some 1
  | .ior => some 1
  | .irem => some 1
  | .ireturn => some 1
  | .ishl => some 1
  | .isub => some 1
  | .return_ => some 1
  | .aload_n _ => some 1
  | .astore_n _ => some 1
  | .iload_n _ => some 1
  | .istore_n _ => some 1
  | .iconst _ => some 1
  | .aload _ => some 2
  | .astore _ => some 2
  | .iload _ => some 2
  | .istore _ => some 2
  | .bipush _ => some 2
  | .newarray _ => some 2
  | .anewarray _ => some 3
  | .checkcast _ => some 3
  | .getfield _ => some 3
  | .getstatic _ => some 3
  | .goto _ => some 3
  | .ifnonnull _ => some 3
  | .ifnull _ => some 3
  | .instanceof _ => some 3
  | .invokespecial _ => some 3
  | .invokestatic _ => some 3
  | .invokevirtual _ => some 3
  | .new _ => some 3
  | .putfield _ => some 3
  | .sipush _ => some 3
  | .if_acmp _ _ => some 3
  | .if_icmp _ _ => some 3
  | .ifCond _ _ => some 3
  | .iinc _ _ => some 3
  | _ => none
