theorem me_obj : Cond.code objectInit ⟨#[0xb1]⟩ 1 none ∈ lw_gd := gdm (i := 39) (by decide +kernel) rfl
theorem im_obj : Cond.instanceMethod objectInit ∈ lw_gd := by decide +kernel
theorem st_min : Cond.static Lib.Math.min.name ∈ lw_gd := by decide +kernel
theorem cd_min : Cond.code Lib.Math.min.name Lib.Math.min.code 2 (some .int) ∈ lw_gd := gdm (i := 42) (by decide +kernel) rfl
theorem st_max : Cond.static Lib.Math.max.name ∈ lw_gd := by decide +kernel
theorem cd_max : Cond.code Lib.Math.max.name Lib.Math.max.code 2 (some .int) ∈ lw_gd := gdm (i := 45) (by decide +kernel) rfl
theorem it_math : Cond.initialized "java/lang/Math" ∈ lw_gd := by decide +kernel
theorem ar_int : Cond.arrayClass .int ∈ lw_gd := by decide +kernel
theorem ar_boolean : Cond.arrayClass .boolean ∈ lw_gd := by decide +kernel
def RX0 : String := "ProcRing"
def TX0 : u_T := fun k => match k with
  | 0 => ("ProcRing", "numbers", "[I", true)
  | 1 => ("ProcRing", "states", "[I", true)
  | 2 => ("ProcRing", "parents", "[I", true)
  | 3 => ("ProcRing", "killed", "[Z", true)
  | 4 => ("ProcRing", "endStatuses", "[I", true)
  | 5 => ("ProcRing", "waitsFor", "[I", true)
  | 6 => ("ProcRing", "channels", "[I", true)
  | 7 => ("ProcRing", "ticksLeft", "[I", true)
  | 8 => ("ProcRing", "placesOn", "[I", true)
  | 9 => ("ProcRing", "takenLast", "I", false)
  | 10 => ("ProcRing", "numberLast", "I", false)
  | 11 => ("ProcRing", "ticks", "I", false)
  | _ => ("ProcRing", "statusLatest", "I", false)
def tyX0 : Nat → FieldType := fun k => match k with
  | 0 => .array .int
  | 1 => .array .int
  | 2 => .array .int
  | 3 => .array .boolean
  | 4 => .array .int
  | 5 => .array .int
  | 6 => .array .int
  | 7 => .array .int
  | 8 => .array .int
  | 9 => .int
  | 10 => .int
  | 11 => .int
  | _ => .int
theorem nmX0 : ∀ a, a < 13 → ∀ b, b < 13 → a ≠ b → (TX0 a).2.1 ≠ (TX0 b).2.1 := by decide +kernel
theorem tyX0_ok : ∀ k, k < 13 → parseFieldDescriptor (TX0 k).2.2.1 = some (tyX0 k) := by decide +kernel
set_option maxRecDepth 100000 in
theorem inX0 : ∀ w ∈ u_ws RX0 TX0 13, w ∈ lw_gd := by decide +kernel
theorem imX0 {x : Cond} : ∀ w ∈ u_ws RX0 TX0 13, w ∈ x :: lw_gd := fun w h => List.mem_cons_of_mem _ (inX0 w h)
theorem itX0 : Cond.initialized RX0 ∈ lw_gd := by decide +kernel
theorem isX0 : Cond.instantiable RX0 13 ∈ lw_gd := by decide +kernel
theorem flX0_18 : Cond.fieldLink RX0 18 (TX0 0).1 (TX0 0).2.1 (TX0 0).2.2.1 ∈ lw_gd := gdm (i := 46) (by decide +kernel) rfl
theorem flX0_22 : Cond.fieldLink RX0 22 (TX0 1).1 (TX0 1).2.1 (TX0 1).2.2.1 ∈ lw_gd := gdm (i := 47) (by decide +kernel) rfl
theorem flX0_25 : Cond.fieldLink RX0 25 (TX0 2).1 (TX0 2).2.1 (TX0 2).2.2.1 ∈ lw_gd := gdm (i := 48) (by decide +kernel) rfl
theorem flX0_28 : Cond.fieldLink RX0 28 (TX0 3).1 (TX0 3).2.1 (TX0 3).2.2.1 ∈ lw_gd := gdm (i := 49) (by decide +kernel) rfl
theorem flX0_32 : Cond.fieldLink RX0 32 (TX0 4).1 (TX0 4).2.1 (TX0 4).2.2.1 ∈ lw_gd := gdm (i := 50) (by decide +kernel) rfl
theorem flX0_35 : Cond.fieldLink RX0 35 (TX0 5).1 (TX0 5).2.1 (TX0 5).2.2.1 ∈ lw_gd := gdm (i := 51) (by decide +kernel) rfl
theorem flX0_38 : Cond.fieldLink RX0 38 (TX0 6).1 (TX0 6).2.1 (TX0 6).2.2.1 ∈ lw_gd := gdm (i := 52) (by decide +kernel) rfl
theorem flX0_41 : Cond.fieldLink RX0 41 (TX0 7).1 (TX0 7).2.1 (TX0 7).2.2.1 ∈ lw_gd := gdm (i := 53) (by decide +kernel) rfl
theorem flX0_44 : Cond.fieldLink RX0 44 (TX0 8).1 (TX0 8).2.1 (TX0 8).2.2.1 ∈ lw_gd := gdm (i := 54) (by decide +kernel) rfl
theorem flX0_47 : Cond.fieldLink RX0 47 (TX0 9).1 (TX0 9).2.1 (TX0 9).2.2.1 ∈ lw_gd := gdm (i := 55) (by decide +kernel) rfl
theorem flX0_51 : Cond.fieldLink RX0 51 (TX0 10).1 (TX0 10).2.1 (TX0 10).2.2.1 ∈ lw_gd := gdm (i := 56) (by decide +kernel) rfl
theorem flX0_54 : Cond.fieldLink RX0 54 (TX0 11).1 (TX0 11).2.1 (TX0 11).2.2.1 ∈ lw_gd := gdm (i := 57) (by decide +kernel) rfl
theorem flX0_57 : Cond.fieldLink RX0 57 (TX0 12).1 (TX0 12).2.1 (TX0 12).2.2.1 ∈ lw_gd := gdm (i := 58) (by decide +kernel) rfl
abbrev cX0_init : ByteArray := prog_1_method_1_code
def yX0_init : MethodName := ⟨RX0, "<init>", "(I)V"⟩
def wsX0_init : List Cond := .code yX0_init cX0_init 4 none :: lw_gd
theorem cdX0_init : Cond.code yX0_init cX0_init 4 none ∈ lw_gd := gdm (i := 36) (by decide +kernel) rfl
theorem imX0_init : Cond.instanceMethod yX0_init ∈ lw_gd := by decide +kernel
theorem hdX0_init : yX0_init.cls ≠ "java/lang/invoke/MethodHandle" ∧ yX0_init.cls ≠ "java/lang/invoke/VarHandle" ∧ (parseMethodDescriptor yX0_init.desc).map (fun d => d.parameters.length) = some 1 := by decide +kernel
abbrev cX0_first : ByteArray := prog_1_method_2_code
def yX0_first : MethodName := ⟨RX0, "first", "()Z"⟩
def wsX0_first : List Cond := .code yX0_first cX0_first 1 (some .boolean) :: lw_gd
theorem cdX0_first : Cond.code yX0_first cX0_first 1 (some .boolean) ∈ lw_gd := gdm (i := 91) (by decide +kernel) rfl
theorem imX0_first : Cond.instanceMethod yX0_first ∈ lw_gd := by decide +kernel
theorem seX0_first : Cond.selects RX0 yX0_first yX0_first ∈ lw_gd := by decide +kernel
theorem hdX0_first : yX0_first.cls = RX0 ∧ yX0_first.cls ≠ "java/lang/invoke/MethodHandle" ∧ yX0_first.cls ≠ "java/lang/invoke/VarHandle" ∧ (parseMethodDescriptor yX0_first.desc).map (fun d => d.parameters.length) = some 0 := by decide +kernel
abbrev cX0_isEmptyRing : ByteArray := prog_1_method_16_code
def yX0_isEmptyRing : MethodName := ⟨RX0, "isEmptyRing", "()Z"⟩
def wsX0_isEmptyRing : List Cond := .code yX0_isEmptyRing cX0_isEmptyRing 1 (some .boolean) :: lw_gd
theorem cdX0_isEmptyRing : Cond.code yX0_isEmptyRing cX0_isEmptyRing 1 (some .boolean) ∈ lw_gd := gdm (i := 95) (by decide +kernel) rfl
theorem imX0_isEmptyRing : Cond.instanceMethod yX0_isEmptyRing ∈ lw_gd := by decide +kernel
theorem seX0_isEmptyRing : Cond.selects RX0 yX0_isEmptyRing yX0_isEmptyRing ∈ lw_gd := by decide +kernel
theorem hdX0_isEmptyRing : yX0_isEmptyRing.cls = RX0 ∧ yX0_isEmptyRing.cls ≠ "java/lang/invoke/MethodHandle" ∧ yX0_isEmptyRing.cls ≠ "java/lang/invoke/VarHandle" ∧ (parseMethodDescriptor yX0_isEmptyRing.desc).map (fun d => d.parameters.length) = some 0 := by decide +kernel
abbrev cX0_settle : ByteArray := prog_1_method_27_code
def yX0_settle : MethodName := ⟨RX0, "settle", "(III)V"⟩
def wsX0_settle : List Cond := .code yX0_settle cX0_settle 4 none :: lw_gd
theorem cdX0_settle : Cond.code yX0_settle cX0_settle 4 none ∈ lw_gd := gdm (i := 99) (by decide +kernel) rfl
theorem imX0_settle : Cond.instanceMethod yX0_settle ∈ lw_gd := by decide +kernel
theorem seX0_settle : Cond.selects RX0 yX0_settle yX0_settle ∈ lw_gd := by decide +kernel
theorem hdX0_settle : yX0_settle.cls = RX0 ∧ yX0_settle.cls ≠ "java/lang/invoke/MethodHandle" ∧ yX0_settle.cls ≠ "java/lang/invoke/VarHandle" ∧ (parseMethodDescriptor yX0_settle.desc).map (fun d => d.parameters.length) = some 3 := by decide +kernel
abbrev cX0_pick : ByteArray := prog_1_method_3_code
def yX0_pick : MethodName := ⟨RX0, "pick", "(I)I"⟩
def wsX0_pick : List Cond := .code yX0_pick cX0_pick 3 (some .int) :: lw_gd
theorem cdX0_pick : Cond.code yX0_pick cX0_pick 3 (some .int) ∈ lw_gd := gdm (i := 103) (by decide +kernel) rfl
theorem imX0_pick : Cond.instanceMethod yX0_pick ∈ lw_gd := by decide +kernel
theorem seX0_pick : Cond.selects RX0 yX0_pick yX0_pick ∈ lw_gd := by decide +kernel
theorem hdX0_pick : yX0_pick.cls = RX0 ∧ yX0_pick.cls ≠ "java/lang/invoke/MethodHandle" ∧ yX0_pick.cls ≠ "java/lang/invoke/VarHandle" ∧ (parseMethodDescriptor yX0_pick.desc).map (fun d => d.parameters.length) = some 1 := by decide +kernel
abbrev cX0_isProcessor : ByteArray := prog_1_method_17_code
def yX0_isProcessor : MethodName := ⟨RX0, "isProcessor", "(I)Z"⟩
def wsX0_isProcessor : List Cond := .code yX0_isProcessor cX0_isProcessor 2 (some .boolean) :: lw_gd
theorem cdX0_isProcessor : Cond.code yX0_isProcessor cX0_isProcessor 2 (some .boolean) ∈ lw_gd := gdm (i := 107) (by decide +kernel) rfl
theorem imX0_isProcessor : Cond.instanceMethod yX0_isProcessor ∈ lw_gd := by decide +kernel
theorem seX0_isProcessor : Cond.selects RX0 yX0_isProcessor yX0_isProcessor ∈ lw_gd := by decide +kernel
theorem hdX0_isProcessor : yX0_isProcessor.cls = RX0 ∧ yX0_isProcessor.cls ≠ "java/lang/invoke/MethodHandle" ∧ yX0_isProcessor.cls ≠ "java/lang/invoke/VarHandle" ∧ (parseMethodDescriptor yX0_isProcessor.desc).map (fun d => d.parameters.length) = some 1 := by decide +kernel
abbrev cX0_nextReady : ByteArray := prog_1_method_23_code
def yX0_nextReady : MethodName := ⟨RX0, "nextReady", "()I"⟩
def wsX0_nextReady : List Cond := .code yX0_nextReady cX0_nextReady 3 (some .int) :: lw_gd
theorem cdX0_nextReady : Cond.code yX0_nextReady cX0_nextReady 3 (some .int) ∈ lw_gd := gdm (i := 111) (by decide +kernel) rfl
theorem imX0_nextReady : Cond.instanceMethod yX0_nextReady ∈ lw_gd := by decide +kernel
theorem seX0_nextReady : Cond.selects RX0 yX0_nextReady yX0_nextReady ∈ lw_gd := by decide +kernel
theorem hdX0_nextReady : yX0_nextReady.cls = RX0 ∧ yX0_nextReady.cls ≠ "java/lang/invoke/MethodHandle" ∧ yX0_nextReady.cls ≠ "java/lang/invoke/VarHandle" ∧ (parseMethodDescriptor yX0_nextReady.desc).map (fun d => d.parameters.length) = some 0 := by decide +kernel
abbrev cX0_fork : ByteArray := prog_1_method_4_code
def yX0_fork : MethodName := ⟨RX0, "fork", "(I)I"⟩
def wsX0_fork : List Cond := .code yX0_fork cX0_fork 4 (some .int) :: lw_gd
theorem cdX0_fork : Cond.code yX0_fork cX0_fork 4 (some .int) ∈ lw_gd := gdm (i := 115) (by decide +kernel) rfl
theorem imX0_fork : Cond.instanceMethod yX0_fork ∈ lw_gd := by decide +kernel
theorem seX0_fork : Cond.selects RX0 yX0_fork yX0_fork ∈ lw_gd := by decide +kernel
theorem hdX0_fork : yX0_fork.cls = RX0 ∧ yX0_fork.cls ≠ "java/lang/invoke/MethodHandle" ∧ yX0_fork.cls ≠ "java/lang/invoke/VarHandle" ∧ (parseMethodDescriptor yX0_fork.desc).map (fun d => d.parameters.length) = some 1 := by decide +kernel
abbrev cX0_placeOn : ByteArray := prog_1_method_20_code
def yX0_placeOn : MethodName := ⟨RX0, "placeOn", "(I)I"⟩
def wsX0_placeOn : List Cond := .code yX0_placeOn cX0_placeOn 2 (some .int) :: lw_gd
theorem cdX0_placeOn : Cond.code yX0_placeOn cX0_placeOn 2 (some .int) ∈ lw_gd := gdm (i := 119) (by decide +kernel) rfl
theorem imX0_placeOn : Cond.instanceMethod yX0_placeOn ∈ lw_gd := by decide +kernel
theorem seX0_placeOn : Cond.selects RX0 yX0_placeOn yX0_placeOn ∈ lw_gd := by decide +kernel
theorem hdX0_placeOn : yX0_placeOn.cls = RX0 ∧ yX0_placeOn.cls ≠ "java/lang/invoke/MethodHandle" ∧ yX0_placeOn.cls ≠ "java/lang/invoke/VarHandle" ∧ (parseMethodDescriptor yX0_placeOn.desc).map (fun d => d.parameters.length) = some 1 := by decide +kernel
abbrev cX0_firstFree : ByteArray := prog_1_method_24_code
def yX0_firstFree : MethodName := ⟨RX0, "firstFree", "()I"⟩
def wsX0_firstFree : List Cond := .code yX0_firstFree cX0_firstFree 2 (some .int) :: lw_gd
theorem cdX0_firstFree : Cond.code yX0_firstFree cX0_firstFree 2 (some .int) ∈ lw_gd := gdm (i := 123) (by decide +kernel) rfl
theorem imX0_firstFree : Cond.instanceMethod yX0_firstFree ∈ lw_gd := by decide +kernel
theorem seX0_firstFree : Cond.selects RX0 yX0_firstFree yX0_firstFree ∈ lw_gd := by decide +kernel
theorem hdX0_firstFree : yX0_firstFree.cls = RX0 ∧ yX0_firstFree.cls ≠ "java/lang/invoke/MethodHandle" ∧ yX0_firstFree.cls ≠ "java/lang/invoke/VarHandle" ∧ (parseMethodDescriptor yX0_firstFree.desc).map (fun d => d.parameters.length) = some 0 := by decide +kernel
abbrev cX0_exit : ByteArray := prog_1_method_5_code
def yX0_exit : MethodName := ⟨RX0, "exit", "(II)I"⟩
def wsX0_exit : List Cond := .code yX0_exit cX0_exit 4 (some .int) :: lw_gd
theorem cdX0_exit : Cond.code yX0_exit cX0_exit 4 (some .int) ∈ lw_gd := gdm (i := 127) (by decide +kernel) rfl
theorem imX0_exit : Cond.instanceMethod yX0_exit ∈ lw_gd := by decide +kernel
theorem seX0_exit : Cond.selects RX0 yX0_exit yX0_exit ∈ lw_gd := by decide +kernel
theorem hdX0_exit : yX0_exit.cls = RX0 ∧ yX0_exit.cls ≠ "java/lang/invoke/MethodHandle" ∧ yX0_exit.cls ≠ "java/lang/invoke/VarHandle" ∧ (parseMethodDescriptor yX0_exit.desc).map (fun d => d.parameters.length) = some 2 := by decide +kernel
abbrev cX0_emptyRing : ByteArray := prog_1_method_29_code
def yX0_emptyRing : MethodName := ⟨RX0, "emptyRing", "()V"⟩
def wsX0_emptyRing : List Cond := .code yX0_emptyRing cX0_emptyRing 2 none :: lw_gd
theorem cdX0_emptyRing : Cond.code yX0_emptyRing cX0_emptyRing 2 none ∈ lw_gd := gdm (i := 131) (by decide +kernel) rfl
theorem imX0_emptyRing : Cond.instanceMethod yX0_emptyRing ∈ lw_gd := by decide +kernel
theorem seX0_emptyRing : Cond.selects RX0 yX0_emptyRing yX0_emptyRing ∈ lw_gd := by decide +kernel
theorem hdX0_emptyRing : yX0_emptyRing.cls = RX0 ∧ yX0_emptyRing.cls ≠ "java/lang/invoke/MethodHandle" ∧ yX0_emptyRing.cls ≠ "java/lang/invoke/VarHandle" ∧ (parseMethodDescriptor yX0_emptyRing.desc).map (fun d => d.parameters.length) = some 0 := by decide +kernel
abbrev cX0_clearPlace : ByteArray := prog_1_method_28_code
def yX0_clearPlace : MethodName := ⟨RX0, "clearPlace", "(I)V"⟩
def wsX0_clearPlace : List Cond := .code yX0_clearPlace cX0_clearPlace 2 none :: lw_gd
theorem cdX0_clearPlace : Cond.code yX0_clearPlace cX0_clearPlace 2 none ∈ lw_gd := gdm (i := 135) (by decide +kernel) rfl
theorem imX0_clearPlace : Cond.instanceMethod yX0_clearPlace ∈ lw_gd := by decide +kernel
theorem seX0_clearPlace : Cond.selects RX0 yX0_clearPlace yX0_clearPlace ∈ lw_gd := by decide +kernel
theorem hdX0_clearPlace : yX0_clearPlace.cls = RX0 ∧ yX0_clearPlace.cls ≠ "java/lang/invoke/MethodHandle" ∧ yX0_clearPlace.cls ≠ "java/lang/invoke/VarHandle" ∧ (parseMethodDescriptor yX0_clearPlace.desc).map (fun d => d.parameters.length) = some 1 := by decide +kernel
abbrev cX0_takeOff : ByteArray := prog_1_method_30_code
def yX0_takeOff : MethodName := ⟨RX0, "takeOff", "(III)V"⟩
def wsX0_takeOff : List Cond := .code yX0_takeOff cX0_takeOff 4 none :: lw_gd
theorem cdX0_takeOff : Cond.code yX0_takeOff cX0_takeOff 4 none ∈ lw_gd := gdm (i := 139) (by decide +kernel) rfl
theorem imX0_takeOff : Cond.instanceMethod yX0_takeOff ∈ lw_gd := by decide +kernel
theorem seX0_takeOff : Cond.selects RX0 yX0_takeOff yX0_takeOff ∈ lw_gd := by decide +kernel
theorem hdX0_takeOff : yX0_takeOff.cls = RX0 ∧ yX0_takeOff.cls ≠ "java/lang/invoke/MethodHandle" ∧ yX0_takeOff.cls ≠ "java/lang/invoke/VarHandle" ∧ (parseMethodDescriptor yX0_takeOff.desc).map (fun d => d.parameters.length) = some 3 := by decide +kernel
abbrev cX0_handOnChildren : ByteArray := prog_1_method_33_code
def yX0_handOnChildren : MethodName := ⟨RX0, "handOnChildren", "(I)V"⟩
def wsX0_handOnChildren : List Cond := .code yX0_handOnChildren cX0_handOnChildren 3 none :: lw_gd
theorem cdX0_handOnChildren : Cond.code yX0_handOnChildren cX0_handOnChildren 3 none ∈ lw_gd := gdm (i := 143) (by decide +kernel) rfl
theorem imX0_handOnChildren : Cond.instanceMethod yX0_handOnChildren ∈ lw_gd := by decide +kernel
theorem seX0_handOnChildren : Cond.selects RX0 yX0_handOnChildren yX0_handOnChildren ∈ lw_gd := by decide +kernel
theorem hdX0_handOnChildren : yX0_handOnChildren.cls = RX0 ∧ yX0_handOnChildren.cls ≠ "java/lang/invoke/MethodHandle" ∧ yX0_handOnChildren.cls ≠ "java/lang/invoke/VarHandle" ∧ (parseMethodDescriptor yX0_handOnChildren.desc).map (fun d => d.parameters.length) = some 1 := by decide +kernel
abbrev cX0_isChild : ByteArray := prog_1_method_19_code
def yX0_isChild : MethodName := ⟨RX0, "isChild", "(II)Z"⟩
def wsX0_isChild : List Cond := .code yX0_isChild cX0_isChild 3 (some .boolean) :: lw_gd
theorem cdX0_isChild : Cond.code yX0_isChild cX0_isChild 3 (some .boolean) ∈ lw_gd := gdm (i := 147) (by decide +kernel) rfl
theorem imX0_isChild : Cond.instanceMethod yX0_isChild ∈ lw_gd := by decide +kernel
theorem seX0_isChild : Cond.selects RX0 yX0_isChild yX0_isChild ∈ lw_gd := by decide +kernel
theorem hdX0_isChild : yX0_isChild.cls = RX0 ∧ yX0_isChild.cls ≠ "java/lang/invoke/MethodHandle" ∧ yX0_isChild.cls ≠ "java/lang/invoke/VarHandle" ∧ (parseMethodDescriptor yX0_isChild.desc).map (fun d => d.parameters.length) = some 2 := by decide +kernel
abbrev cX0_tellOfZombie : ByteArray := prog_1_method_34_code
def yX0_tellOfZombie : MethodName := ⟨RX0, "tellOfZombie", "(I)V"⟩
def wsX0_tellOfZombie : List Cond := .code yX0_tellOfZombie cX0_tellOfZombie 3 none :: lw_gd
theorem cdX0_tellOfZombie : Cond.code yX0_tellOfZombie cX0_tellOfZombie 3 none ∈ lw_gd := gdm (i := 151) (by decide +kernel) rfl
theorem imX0_tellOfZombie : Cond.instanceMethod yX0_tellOfZombie ∈ lw_gd := by decide +kernel
theorem seX0_tellOfZombie : Cond.selects RX0 yX0_tellOfZombie yX0_tellOfZombie ∈ lw_gd := by decide +kernel
theorem hdX0_tellOfZombie : yX0_tellOfZombie.cls = RX0 ∧ yX0_tellOfZombie.cls ≠ "java/lang/invoke/MethodHandle" ∧ yX0_tellOfZombie.cls ≠ "java/lang/invoke/VarHandle" ∧ (parseMethodDescriptor yX0_tellOfZombie.desc).map (fun d => d.parameters.length) = some 1 := by decide +kernel
abbrev cX0_placeOf : ByteArray := prog_1_method_22_code
def yX0_placeOf : MethodName := ⟨RX0, "placeOf", "(I)I"⟩
def wsX0_placeOf : List Cond := .code yX0_placeOf cX0_placeOf 3 (some .int) :: lw_gd
theorem cdX0_placeOf : Cond.code yX0_placeOf cX0_placeOf 3 (some .int) ∈ lw_gd := gdm (i := 155) (by decide +kernel) rfl
theorem imX0_placeOf : Cond.instanceMethod yX0_placeOf ∈ lw_gd := by decide +kernel
theorem seX0_placeOf : Cond.selects RX0 yX0_placeOf yX0_placeOf ∈ lw_gd := by decide +kernel
theorem hdX0_placeOf : yX0_placeOf.cls = RX0 ∧ yX0_placeOf.cls ≠ "java/lang/invoke/MethodHandle" ∧ yX0_placeOf.cls ≠ "java/lang/invoke/VarHandle" ∧ (parseMethodDescriptor yX0_placeOf.desc).map (fun d => d.parameters.length) = some 1 := by decide +kernel
abbrev cX0_isBlockedFor : ByteArray := prog_1_method_18_code
def yX0_isBlockedFor : MethodName := ⟨RX0, "isBlockedFor", "(II)Z"⟩
def wsX0_isBlockedFor : List Cond := .code yX0_isBlockedFor cX0_isBlockedFor 3 (some .boolean) :: lw_gd
theorem cdX0_isBlockedFor : Cond.code yX0_isBlockedFor cX0_isBlockedFor 3 (some .boolean) ∈ lw_gd := gdm (i := 159) (by decide +kernel) rfl
theorem imX0_isBlockedFor : Cond.instanceMethod yX0_isBlockedFor ∈ lw_gd := by decide +kernel
theorem seX0_isBlockedFor : Cond.selects RX0 yX0_isBlockedFor yX0_isBlockedFor ∈ lw_gd := by decide +kernel
theorem hdX0_isBlockedFor : yX0_isBlockedFor.cls = RX0 ∧ yX0_isBlockedFor.cls ≠ "java/lang/invoke/MethodHandle" ∧ yX0_isBlockedFor.cls ≠ "java/lang/invoke/VarHandle" ∧ (parseMethodDescriptor yX0_isBlockedFor.desc).map (fun d => d.parameters.length) = some 2 := by decide +kernel
abbrev cX0_makeReady : ByteArray := prog_1_method_31_code
def yX0_makeReady : MethodName := ⟨RX0, "makeReady", "(I)V"⟩
def wsX0_makeReady : List Cond := .code yX0_makeReady cX0_makeReady 2 none :: lw_gd
theorem cdX0_makeReady : Cond.code yX0_makeReady cX0_makeReady 2 none ∈ lw_gd := gdm (i := 163) (by decide +kernel) rfl
theorem imX0_makeReady : Cond.instanceMethod yX0_makeReady ∈ lw_gd := by decide +kernel
theorem seX0_makeReady : Cond.selects RX0 yX0_makeReady yX0_makeReady ∈ lw_gd := by decide +kernel
theorem hdX0_makeReady : yX0_makeReady.cls = RX0 ∧ yX0_makeReady.cls ≠ "java/lang/invoke/MethodHandle" ∧ yX0_makeReady.cls ≠ "java/lang/invoke/VarHandle" ∧ (parseMethodDescriptor yX0_makeReady.desc).map (fun d => d.parameters.length) = some 1 := by decide +kernel
abbrev cX0_await : ByteArray := prog_1_method_6_code
def yX0_await : MethodName := ⟨RX0, "await", "(I)I"⟩
def wsX0_await : List Cond := .code yX0_await cX0_await 5 (some .int) :: lw_gd
theorem cdX0_await : Cond.code yX0_await cX0_await 5 (some .int) ∈ lw_gd := gdm (i := 167) (by decide +kernel) rfl
theorem imX0_await : Cond.instanceMethod yX0_await ∈ lw_gd := by decide +kernel
theorem seX0_await : Cond.selects RX0 yX0_await yX0_await ∈ lw_gd := by decide +kernel
theorem hdX0_await : yX0_await.cls = RX0 ∧ yX0_await.cls ≠ "java/lang/invoke/MethodHandle" ∧ yX0_await.cls ≠ "java/lang/invoke/VarHandle" ∧ (parseMethodDescriptor yX0_await.desc).map (fun d => d.parameters.length) = some 1 := by decide +kernel
abbrev cX0_hasChild : ByteArray := prog_1_method_25_code
def yX0_hasChild : MethodName := ⟨RX0, "hasChild", "(I)Z"⟩
def wsX0_hasChild : List Cond := .code yX0_hasChild cX0_hasChild 3 (some .boolean) :: lw_gd
theorem cdX0_hasChild : Cond.code yX0_hasChild cX0_hasChild 3 (some .boolean) ∈ lw_gd := gdm (i := 171) (by decide +kernel) rfl
theorem imX0_hasChild : Cond.instanceMethod yX0_hasChild ∈ lw_gd := by decide +kernel
theorem seX0_hasChild : Cond.selects RX0 yX0_hasChild yX0_hasChild ∈ lw_gd := by decide +kernel
theorem hdX0_hasChild : yX0_hasChild.cls = RX0 ∧ yX0_hasChild.cls ≠ "java/lang/invoke/MethodHandle" ∧ yX0_hasChild.cls ≠ "java/lang/invoke/VarHandle" ∧ (parseMethodDescriptor yX0_hasChild.desc).map (fun d => d.parameters.length) = some 1 := by decide +kernel
abbrev cX0_firstZombieChild : ByteArray := prog_1_method_26_code
def yX0_firstZombieChild : MethodName := ⟨RX0, "firstZombieChild", "(I)I"⟩
def wsX0_firstZombieChild : List Cond := .code yX0_firstZombieChild cX0_firstZombieChild 3 (some .int) :: lw_gd
theorem cdX0_firstZombieChild : Cond.code yX0_firstZombieChild cX0_firstZombieChild 3 (some .int) ∈ lw_gd := gdm (i := 175) (by decide +kernel) rfl
theorem imX0_firstZombieChild : Cond.instanceMethod yX0_firstZombieChild ∈ lw_gd := by decide +kernel
theorem seX0_firstZombieChild : Cond.selects RX0 yX0_firstZombieChild yX0_firstZombieChild ∈ lw_gd := by decide +kernel
theorem hdX0_firstZombieChild : yX0_firstZombieChild.cls = RX0 ∧ yX0_firstZombieChild.cls ≠ "java/lang/invoke/MethodHandle" ∧ yX0_firstZombieChild.cls ≠ "java/lang/invoke/VarHandle" ∧ (parseMethodDescriptor yX0_firstZombieChild.desc).map (fun d => d.parameters.length) = some 1 := by decide +kernel
abbrev cX0_status : ByteArray := prog_1_method_7_code
def yX0_status : MethodName := ⟨RX0, "status", "()I"⟩
def wsX0_status : List Cond := .code yX0_status cX0_status 1 (some .int) :: lw_gd
theorem cdX0_status : Cond.code yX0_status cX0_status 1 (some .int) ∈ lw_gd := gdm (i := 179) (by decide +kernel) rfl
theorem imX0_status : Cond.instanceMethod yX0_status ∈ lw_gd := by decide +kernel
theorem seX0_status : Cond.selects RX0 yX0_status yX0_status ∈ lw_gd := by decide +kernel
theorem hdX0_status : yX0_status.cls = RX0 ∧ yX0_status.cls ≠ "java/lang/invoke/MethodHandle" ∧ yX0_status.cls ≠ "java/lang/invoke/VarHandle" ∧ (parseMethodDescriptor yX0_status.desc).map (fun d => d.parameters.length) = some 0 := by decide +kernel
abbrev cX0_block : ByteArray := prog_1_method_8_code
def yX0_block : MethodName := ⟨RX0, "block", "(II)I"⟩
def wsX0_block : List Cond := .code yX0_block cX0_block 4 (some .int) :: lw_gd
theorem cdX0_block : Cond.code yX0_block cX0_block 4 (some .int) ∈ lw_gd := gdm (i := 183) (by decide +kernel) rfl
theorem imX0_block : Cond.instanceMethod yX0_block ∈ lw_gd := by decide +kernel
theorem seX0_block : Cond.selects RX0 yX0_block yX0_block ∈ lw_gd := by decide +kernel
theorem hdX0_block : yX0_block.cls = RX0 ∧ yX0_block.cls ≠ "java/lang/invoke/MethodHandle" ∧ yX0_block.cls ≠ "java/lang/invoke/VarHandle" ∧ (parseMethodDescriptor yX0_block.desc).map (fun d => d.parameters.length) = some 2 := by decide +kernel
abbrev cX0_sleep : ByteArray := prog_1_method_9_code
def yX0_sleep : MethodName := ⟨RX0, "sleep", "(II)I"⟩
def wsX0_sleep : List Cond := .code yX0_sleep cX0_sleep 4 (some .int) :: lw_gd
theorem cdX0_sleep : Cond.code yX0_sleep cX0_sleep 4 (some .int) ∈ lw_gd := gdm (i := 187) (by decide +kernel) rfl
theorem imX0_sleep : Cond.instanceMethod yX0_sleep ∈ lw_gd := by decide +kernel
theorem seX0_sleep : Cond.selects RX0 yX0_sleep yX0_sleep ∈ lw_gd := by decide +kernel
theorem hdX0_sleep : yX0_sleep.cls = RX0 ∧ yX0_sleep.cls ≠ "java/lang/invoke/MethodHandle" ∧ yX0_sleep.cls ≠ "java/lang/invoke/VarHandle" ∧ (parseMethodDescriptor yX0_sleep.desc).map (fun d => d.parameters.length) = some 2 := by decide +kernel
abbrev cX0_wake : ByteArray := prog_1_method_10_code
def yX0_wake : MethodName := ⟨RX0, "wake", "(I)I"⟩
def wsX0_wake : List Cond := .code yX0_wake cX0_wake 4 (some .int) :: lw_gd
theorem cdX0_wake : Cond.code yX0_wake cX0_wake 4 (some .int) ∈ lw_gd := gdm (i := 191) (by decide +kernel) rfl
theorem imX0_wake : Cond.instanceMethod yX0_wake ∈ lw_gd := by decide +kernel
theorem seX0_wake : Cond.selects RX0 yX0_wake yX0_wake ∈ lw_gd := by decide +kernel
theorem hdX0_wake : yX0_wake.cls = RX0 ∧ yX0_wake.cls ≠ "java/lang/invoke/MethodHandle" ∧ yX0_wake.cls ≠ "java/lang/invoke/VarHandle" ∧ (parseMethodDescriptor yX0_wake.desc).map (fun d => d.parameters.length) = some 1 := by decide +kernel
abbrev cX0_rest : ByteArray := prog_1_method_11_code
def yX0_rest : MethodName := ⟨RX0, "rest", "(I)I"⟩
def wsX0_rest : List Cond := .code yX0_rest cX0_rest 3 (some .int) :: lw_gd
theorem cdX0_rest : Cond.code yX0_rest cX0_rest 3 (some .int) ∈ lw_gd := gdm (i := 195) (by decide +kernel) rfl
theorem imX0_rest : Cond.instanceMethod yX0_rest ∈ lw_gd := by decide +kernel
theorem seX0_rest : Cond.selects RX0 yX0_rest yX0_rest ∈ lw_gd := by decide +kernel
theorem hdX0_rest : yX0_rest.cls = RX0 ∧ yX0_rest.cls ≠ "java/lang/invoke/MethodHandle" ∧ yX0_rest.cls ≠ "java/lang/invoke/VarHandle" ∧ (parseMethodDescriptor yX0_rest.desc).map (fun d => d.parameters.length) = some 1 := by decide +kernel
abbrev cX0_tick : ByteArray := prog_1_method_12_code
def yX0_tick : MethodName := ⟨RX0, "tick", "()I"⟩
def wsX0_tick : List Cond := .code yX0_tick cX0_tick 2 (some .int) :: lw_gd
theorem cdX0_tick : Cond.code yX0_tick cX0_tick 2 (some .int) ∈ lw_gd := gdm (i := 199) (by decide +kernel) rfl
theorem imX0_tick : Cond.instanceMethod yX0_tick ∈ lw_gd := by decide +kernel
theorem seX0_tick : Cond.selects RX0 yX0_tick yX0_tick ∈ lw_gd := by decide +kernel
theorem hdX0_tick : yX0_tick.cls = RX0 ∧ yX0_tick.cls ≠ "java/lang/invoke/MethodHandle" ∧ yX0_tick.cls ≠ "java/lang/invoke/VarHandle" ∧ (parseMethodDescriptor yX0_tick.desc).map (fun d => d.parameters.length) = some 0 := by decide +kernel
abbrev cX0_countDown : ByteArray := prog_1_method_32_code
def yX0_countDown : MethodName := ⟨RX0, "countDown", "(I)V"⟩
def wsX0_countDown : List Cond := .code yX0_countDown cX0_countDown 2 none :: lw_gd
theorem cdX0_countDown : Cond.code yX0_countDown cX0_countDown 2 none ∈ lw_gd := gdm (i := 204) (by decide +kernel) rfl
theorem imX0_countDown : Cond.instanceMethod yX0_countDown ∈ lw_gd := by decide +kernel
theorem seX0_countDown : Cond.selects RX0 yX0_countDown yX0_countDown ∈ lw_gd := by decide +kernel
theorem hdX0_countDown : yX0_countDown.cls = RX0 ∧ yX0_countDown.cls ≠ "java/lang/invoke/MethodHandle" ∧ yX0_countDown.cls ≠ "java/lang/invoke/VarHandle" ∧ (parseMethodDescriptor yX0_countDown.desc).map (fun d => d.parameters.length) = some 1 := by decide +kernel
abbrev cX0_kill : ByteArray := prog_1_method_13_code
def yX0_kill : MethodName := ⟨RX0, "kill", "(I)Z"⟩
def wsX0_kill : List Cond := .code yX0_kill cX0_kill 3 (some .boolean) :: lw_gd
theorem cdX0_kill : Cond.code yX0_kill cX0_kill 3 (some .boolean) ∈ lw_gd := gdm (i := 208) (by decide +kernel) rfl
theorem imX0_kill : Cond.instanceMethod yX0_kill ∈ lw_gd := by decide +kernel
theorem seX0_kill : Cond.selects RX0 yX0_kill yX0_kill ∈ lw_gd := by decide +kernel
theorem hdX0_kill : yX0_kill.cls = RX0 ∧ yX0_kill.cls ≠ "java/lang/invoke/MethodHandle" ∧ yX0_kill.cls ≠ "java/lang/invoke/VarHandle" ∧ (parseMethodDescriptor yX0_kill.desc).map (fun d => d.parameters.length) = some 1 := by decide +kernel
abbrev cX0_about : ByteArray := prog_1_method_14_code
def yX0_about : MethodName := ⟨RX0, "about", "(II)I"⟩
def wsX0_about : List Cond := .code yX0_about cX0_about 3 (some .int) :: lw_gd
theorem cdX0_about : Cond.code yX0_about cX0_about 3 (some .int) ∈ lw_gd := gdm (i := 212) (by decide +kernel) rfl
theorem imX0_about : Cond.instanceMethod yX0_about ∈ lw_gd := by decide +kernel
theorem seX0_about : Cond.selects RX0 yX0_about yX0_about ∈ lw_gd := by decide +kernel
theorem hdX0_about : yX0_about.cls = RX0 ∧ yX0_about.cls ≠ "java/lang/invoke/MethodHandle" ∧ yX0_about.cls ≠ "java/lang/invoke/VarHandle" ∧ (parseMethodDescriptor yX0_about.desc).map (fun d => d.parameters.length) = some 2 := by decide +kernel
abbrev cX0_processorOf : ByteArray := prog_1_method_21_code
def yX0_processorOf : MethodName := ⟨RX0, "processorOf", "(I)I"⟩
def wsX0_processorOf : List Cond := .code yX0_processorOf cX0_processorOf 3 (some .int) :: lw_gd
theorem cdX0_processorOf : Cond.code yX0_processorOf cX0_processorOf 3 (some .int) ∈ lw_gd := gdm (i := 216) (by decide +kernel) rfl
theorem imX0_processorOf : Cond.instanceMethod yX0_processorOf ∈ lw_gd := by decide +kernel
theorem seX0_processorOf : Cond.selects RX0 yX0_processorOf yX0_processorOf ∈ lw_gd := by decide +kernel
theorem hdX0_processorOf : yX0_processorOf.cls = RX0 ∧ yX0_processorOf.cls ≠ "java/lang/invoke/MethodHandle" ∧ yX0_processorOf.cls ≠ "java/lang/invoke/VarHandle" ∧ (parseMethodDescriptor yX0_processorOf.desc).map (fun d => d.parameters.length) = some 1 := by decide +kernel
abbrev cX0_count : ByteArray := prog_1_method_15_code
def yX0_count : MethodName := ⟨RX0, "count", "(I)I"⟩
def wsX0_count : List Cond := .code yX0_count cX0_count 5 (some .int) :: lw_gd
theorem cdX0_count : Cond.code yX0_count cX0_count 5 (some .int) ∈ lw_gd := gdm (i := 220) (by decide +kernel) rfl
theorem imX0_count : Cond.instanceMethod yX0_count ∈ lw_gd := by decide +kernel
theorem seX0_count : Cond.selects RX0 yX0_count yX0_count ∈ lw_gd := by decide +kernel
theorem hdX0_count : yX0_count.cls = RX0 ∧ yX0_count.cls ≠ "java/lang/invoke/MethodHandle" ∧ yX0_count.cls ≠ "java/lang/invoke/VarHandle" ∧ (parseMethodDescriptor yX0_count.desc).map (fun d => d.parameters.length) = some 1 := by decide +kernel
def RX1 : String := "ProcRingModel"
def TX1 : u_T := fun k => match k with
  | 0 => ("ProcRingModel", "thrown", "I", false)
  | 1 => ("ProcRingModel", "processors", "I", true)
  | 2 => ("ProcRingModel", "many", "I", false)
  | 3 => ("ProcRingModel", "ticks", "I", false)
  | 4 => ("ProcRingModel", "latest", "I", false)
  | 5 => ("ProcRingModel", "taken", "I", false)
  | 6 => ("ProcRingModel", "status", "I", false)
  | 7 => ("ProcRingModel", "number", "[I", true)
  | 8 => ("ProcRingModel", "place", "[I", true)
  | 9 => ("ProcRingModel", "parent", "[I", true)
  | 10 => ("ProcRingModel", "ended", "[Z", true)
  | 11 => ("ProcRingModel", "result", "[I", true)
  | 12 => ("ProcRingModel", "killed", "[Z", true)
  | 13 => ("ProcRingModel", "on", "[I", true)
  | 14 => ("ProcRingModel", "waits", "[I", true)
  | _ => ("ProcRingModel", "which", "[I", true)
def tyX1 : Nat → FieldType := fun k => match k with
  | 0 => .int
  | 1 => .int
  | 2 => .int
  | 3 => .int
  | 4 => .int
  | 5 => .int
  | 6 => .int
  | 7 => .array .int
  | 8 => .array .int
  | 9 => .array .int
  | 10 => .array .boolean
  | 11 => .array .int
  | 12 => .array .boolean
  | 13 => .array .int
  | 14 => .array .int
  | _ => .array .int
theorem nmX1 : ∀ a, a < 16 → ∀ b, b < 16 → a ≠ b → (TX1 a).2.1 ≠ (TX1 b).2.1 := by decide +kernel
theorem tyX1_ok : ∀ k, k < 16 → parseFieldDescriptor (TX1 k).2.2.1 = some (tyX1 k) := by decide +kernel
set_option maxRecDepth 100000 in
theorem inX1 : ∀ w ∈ u_ws RX1 TX1 16, w ∈ lw_gd := by decide +kernel
theorem imX1 {x : Cond} : ∀ w ∈ u_ws RX1 TX1 16, w ∈ x :: lw_gd := fun w h => List.mem_cons_of_mem _ (inX1 w h)
theorem itX1 : Cond.initialized RX1 ∈ lw_gd := by decide +kernel
theorem isX1 : Cond.instantiable RX1 16 ∈ lw_gd := by decide +kernel
theorem flX1_42 : Cond.fieldLink RX1 42 (TX1 0).1 (TX1 0).2.1 (TX1 0).2.2.1 ∈ lw_gd := gdm (i := 230) (by decide +kernel) rfl
theorem flX1_38 : Cond.fieldLink RX1 38 (TX1 1).1 (TX1 1).2.1 (TX1 1).2.2.1 ∈ lw_gd := gdm (i := 231) (by decide +kernel) rfl
theorem flX1_45 : Cond.fieldLink RX1 45 (TX1 2).1 (TX1 2).2.1 (TX1 2).2.2.1 ∈ lw_gd := gdm (i := 232) (by decide +kernel) rfl
theorem flX1_55 : Cond.fieldLink RX1 55 (TX1 3).1 (TX1 3).2.1 (TX1 3).2.2.1 ∈ lw_gd := gdm (i := 233) (by decide +kernel) rfl
theorem flX1_58 : Cond.fieldLink RX1 58 (TX1 4).1 (TX1 4).2.1 (TX1 4).2.2.1 ∈ lw_gd := gdm (i := 234) (by decide +kernel) rfl
theorem flX1_61 : Cond.fieldLink RX1 61 (TX1 5).1 (TX1 5).2.1 (TX1 5).2.2.1 ∈ lw_gd := gdm (i := 235) (by decide +kernel) rfl
theorem flX1_78 : Cond.fieldLink RX1 78 (TX1 6).1 (TX1 6).2.1 (TX1 6).2.2.1 ∈ lw_gd := gdm (i := 236) (by decide +kernel) rfl
theorem flX1_7 : Cond.fieldLink RX1 7 (TX1 7).1 (TX1 7).2.1 (TX1 7).2.2.1 ∈ lw_gd := gdm (i := 237) (by decide +kernel) rfl
theorem flX1_13 : Cond.fieldLink RX1 13 (TX1 8).1 (TX1 8).2.1 (TX1 8).2.2.1 ∈ lw_gd := gdm (i := 238) (by decide +kernel) rfl
theorem flX1_16 : Cond.fieldLink RX1 16 (TX1 9).1 (TX1 9).2.1 (TX1 9).2.2.1 ∈ lw_gd := gdm (i := 239) (by decide +kernel) rfl
theorem flX1_19 : Cond.fieldLink RX1 19 (TX1 10).1 (TX1 10).2.1 (TX1 10).2.2.1 ∈ lw_gd := gdm (i := 240) (by decide +kernel) rfl
theorem flX1_23 : Cond.fieldLink RX1 23 (TX1 11).1 (TX1 11).2.1 (TX1 11).2.2.1 ∈ lw_gd := gdm (i := 241) (by decide +kernel) rfl
theorem flX1_26 : Cond.fieldLink RX1 26 (TX1 12).1 (TX1 12).2.1 (TX1 12).2.2.1 ∈ lw_gd := gdm (i := 242) (by decide +kernel) rfl
theorem flX1_29 : Cond.fieldLink RX1 29 (TX1 13).1 (TX1 13).2.1 (TX1 13).2.2.1 ∈ lw_gd := gdm (i := 243) (by decide +kernel) rfl
theorem flX1_32 : Cond.fieldLink RX1 32 (TX1 14).1 (TX1 14).2.1 (TX1 14).2.2.1 ∈ lw_gd := gdm (i := 244) (by decide +kernel) rfl
theorem flX1_35 : Cond.fieldLink RX1 35 (TX1 15).1 (TX1 15).2.1 (TX1 15).2.2.1 ∈ lw_gd := gdm (i := 245) (by decide +kernel) rfl
abbrev cX1_init : ByteArray := prog_3_method_1_code
def yX1_init : MethodName := ⟨RX1, "<init>", "(I)V"⟩
def wsX1_init : List Cond := .code yX1_init cX1_init 2 none :: lw_gd
theorem cdX1_init : Cond.code yX1_init cX1_init 2 none ∈ lw_gd := gdm (i := 228) (by decide +kernel) rfl
theorem imX1_init : Cond.instanceMethod yX1_init ∈ lw_gd := by decide +kernel
theorem hdX1_init : yX1_init.cls ≠ "java/lang/invoke/MethodHandle" ∧ yX1_init.cls ≠ "java/lang/invoke/VarHandle" ∧ (parseMethodDescriptor yX1_init.desc).map (fun d => d.parameters.length) = some 1 := by decide +kernel
abbrev cX1_first : ByteArray := prog_3_method_11_code
def yX1_first : MethodName := ⟨RX1, "first", "()Z"⟩
def wsX1_first : List Cond := .code yX1_first cX1_first 2 (some .boolean) :: lw_gd
theorem cdX1_first : Cond.code yX1_first cX1_first 2 (some .boolean) ∈ lw_gd := gdm (i := 282) (by decide +kernel) rfl
theorem imX1_first : Cond.instanceMethod yX1_first ∈ lw_gd := by decide +kernel
theorem seX1_first : Cond.selects RX1 yX1_first yX1_first ∈ lw_gd := by decide +kernel
theorem hdX1_first : yX1_first.cls = RX1 ∧ yX1_first.cls ≠ "java/lang/invoke/MethodHandle" ∧ yX1_first.cls ≠ "java/lang/invoke/VarHandle" ∧ (parseMethodDescriptor yX1_first.desc).map (fun d => d.parameters.length) = some 0 := by decide +kernel
abbrev cX1_add : ByteArray := prog_3_method_9_code
def yX1_add : MethodName := ⟨RX1, "add", "(II)I"⟩
def wsX1_add : List Cond := .code yX1_add cX1_add 3 (some .int) :: lw_gd
theorem cdX1_add : Cond.code yX1_add cX1_add 3 (some .int) ∈ lw_gd := gdm (i := 286) (by decide +kernel) rfl
theorem imX1_add : Cond.instanceMethod yX1_add ∈ lw_gd := by decide +kernel
theorem seX1_add : Cond.selects RX1 yX1_add yX1_add ∈ lw_gd := by decide +kernel
theorem hdX1_add : yX1_add.cls = RX1 ∧ yX1_add.cls ≠ "java/lang/invoke/MethodHandle" ∧ yX1_add.cls ≠ "java/lang/invoke/VarHandle" ∧ (parseMethodDescriptor yX1_add.desc).map (fun d => d.parameters.length) = some 2 := by decide +kernel
abbrev cX1_pick : ByteArray := prog_3_method_12_code
def yX1_pick : MethodName := ⟨RX1, "pick", "(I)I"⟩
def wsX1_pick : List Cond := .code yX1_pick cX1_pick 5 (some .int) :: lw_gd
theorem cdX1_pick : Cond.code yX1_pick cX1_pick 5 (some .int) ∈ lw_gd := gdm (i := 290) (by decide +kernel) rfl
theorem imX1_pick : Cond.instanceMethod yX1_pick ∈ lw_gd := by decide +kernel
theorem seX1_pick : Cond.selects RX1 yX1_pick yX1_pick ∈ lw_gd := by decide +kernel
theorem hdX1_pick : yX1_pick.cls = RX1 ∧ yX1_pick.cls ≠ "java/lang/invoke/MethodHandle" ∧ yX1_pick.cls ≠ "java/lang/invoke/VarHandle" ∧ (parseMethodDescriptor yX1_pick.desc).map (fun d => d.parameters.length) = some 1 := by decide +kernel
abbrev cX1_running : ByteArray := prog_3_method_5_code
def yX1_running : MethodName := ⟨RX1, "running", "(I)I"⟩
def wsX1_running : List Cond := .code yX1_running cX1_running 4 (some .int) :: lw_gd
theorem cdX1_running : Cond.code yX1_running cX1_running 4 (some .int) ∈ lw_gd := gdm (i := 294) (by decide +kernel) rfl
theorem imX1_running : Cond.instanceMethod yX1_running ∈ lw_gd := by decide +kernel
theorem seX1_running : Cond.selects RX1 yX1_running yX1_running ∈ lw_gd := by decide +kernel
theorem hdX1_running : yX1_running.cls = RX1 ∧ yX1_running.cls ≠ "java/lang/invoke/MethodHandle" ∧ yX1_running.cls ≠ "java/lang/invoke/VarHandle" ∧ (parseMethodDescriptor yX1_running.desc).map (fun d => d.parameters.length) = some 1 := by decide +kernel
abbrev cX1_ofPlace : ByteArray := prog_3_method_3_code
def yX1_ofPlace : MethodName := ⟨RX1, "ofPlace", "(I)I"⟩
def wsX1_ofPlace : List Cond := .code yX1_ofPlace cX1_ofPlace 4 (some .int) :: lw_gd
theorem cdX1_ofPlace : Cond.code yX1_ofPlace cX1_ofPlace 4 (some .int) ∈ lw_gd := gdm (i := 298) (by decide +kernel) rfl
theorem imX1_ofPlace : Cond.instanceMethod yX1_ofPlace ∈ lw_gd := by decide +kernel
theorem seX1_ofPlace : Cond.selects RX1 yX1_ofPlace yX1_ofPlace ∈ lw_gd := by decide +kernel
theorem hdX1_ofPlace : yX1_ofPlace.cls = RX1 ∧ yX1_ofPlace.cls ≠ "java/lang/invoke/MethodHandle" ∧ yX1_ofPlace.cls ≠ "java/lang/invoke/VarHandle" ∧ (parseMethodDescriptor yX1_ofPlace.desc).map (fun d => d.parameters.length) = some 1 := by decide +kernel
abbrev cX1_state : ByteArray := prog_3_method_8_code
def yX1_state : MethodName := ⟨RX1, "state", "(I)I"⟩
def wsX1_state : List Cond := .code yX1_state cX1_state 3 (some .int) :: lw_gd
theorem cdX1_state : Cond.code yX1_state cX1_state 3 (some .int) ∈ lw_gd := gdm (i := 302) (by decide +kernel) rfl
theorem imX1_state : Cond.instanceMethod yX1_state ∈ lw_gd := by decide +kernel
theorem seX1_state : Cond.selects RX1 yX1_state yX1_state ∈ lw_gd := by decide +kernel
theorem hdX1_state : yX1_state.cls = RX1 ∧ yX1_state.cls ≠ "java/lang/invoke/MethodHandle" ∧ yX1_state.cls ≠ "java/lang/invoke/VarHandle" ∧ (parseMethodDescriptor yX1_state.desc).map (fun d => d.parameters.length) = some 1 := by decide +kernel
abbrev cX1_endedChild : ByteArray := prog_3_method_7_code
def yX1_endedChild : MethodName := ⟨RX1, "endedChild", "(I)I"⟩
def wsX1_endedChild : List Cond := .code yX1_endedChild cX1_endedChild 4 (some .int) :: lw_gd
theorem cdX1_endedChild : Cond.code yX1_endedChild cX1_endedChild 4 (some .int) ∈ lw_gd := gdm (i := 306) (by decide +kernel) rfl
theorem imX1_endedChild : Cond.instanceMethod yX1_endedChild ∈ lw_gd := by decide +kernel
theorem seX1_endedChild : Cond.selects RX1 yX1_endedChild yX1_endedChild ∈ lw_gd := by decide +kernel
theorem hdX1_endedChild : yX1_endedChild.cls = RX1 ∧ yX1_endedChild.cls ≠ "java/lang/invoke/MethodHandle" ∧ yX1_endedChild.cls ≠ "java/lang/invoke/VarHandle" ∧ (parseMethodDescriptor yX1_endedChild.desc).map (fun d => d.parameters.length) = some 1 := by decide +kernel
abbrev cX1_fork : ByteArray := prog_3_method_13_code
def yX1_fork : MethodName := ⟨RX1, "fork", "(I)I"⟩
def wsX1_fork : List Cond := .code yX1_fork cX1_fork 4 (some .int) :: lw_gd
theorem cdX1_fork : Cond.code yX1_fork cX1_fork 4 (some .int) ∈ lw_gd := gdm (i := 310) (by decide +kernel) rfl
theorem imX1_fork : Cond.instanceMethod yX1_fork ∈ lw_gd := by decide +kernel
theorem seX1_fork : Cond.selects RX1 yX1_fork yX1_fork ∈ lw_gd := by decide +kernel
theorem hdX1_fork : yX1_fork.cls = RX1 ∧ yX1_fork.cls ≠ "java/lang/invoke/MethodHandle" ∧ yX1_fork.cls ≠ "java/lang/invoke/VarHandle" ∧ (parseMethodDescriptor yX1_fork.desc).map (fun d => d.parameters.length) = some 1 := by decide +kernel
abbrev cX1_vacant : ByteArray := prog_3_method_6_code
def yX1_vacant : MethodName := ⟨RX1, "vacant", "()I"⟩
def wsX1_vacant : List Cond := .code yX1_vacant cX1_vacant 2 (some .int) :: lw_gd
theorem cdX1_vacant : Cond.code yX1_vacant cX1_vacant 2 (some .int) ∈ lw_gd := gdm (i := 314) (by decide +kernel) rfl
theorem imX1_vacant : Cond.instanceMethod yX1_vacant ∈ lw_gd := by decide +kernel
theorem seX1_vacant : Cond.selects RX1 yX1_vacant yX1_vacant ∈ lw_gd := by decide +kernel
theorem hdX1_vacant : yX1_vacant.cls = RX1 ∧ yX1_vacant.cls ≠ "java/lang/invoke/MethodHandle" ∧ yX1_vacant.cls ≠ "java/lang/invoke/VarHandle" ∧ (parseMethodDescriptor yX1_vacant.desc).map (fun d => d.parameters.length) = some 0 := by decide +kernel
abbrev cX1_exit : ByteArray := prog_3_method_14_code
def yX1_exit : MethodName := ⟨RX1, "exit", "(II)I"⟩
def wsX1_exit : List Cond := .code yX1_exit cX1_exit 6 (some .int) :: lw_gd
theorem cdX1_exit : Cond.code yX1_exit cX1_exit 6 (some .int) ∈ lw_gd := gdm (i := 318) (by decide +kernel) rfl
theorem imX1_exit : Cond.instanceMethod yX1_exit ∈ lw_gd := by decide +kernel
theorem seX1_exit : Cond.selects RX1 yX1_exit yX1_exit ∈ lw_gd := by decide +kernel
theorem hdX1_exit : yX1_exit.cls = RX1 ∧ yX1_exit.cls ≠ "java/lang/invoke/MethodHandle" ∧ yX1_exit.cls ≠ "java/lang/invoke/VarHandle" ∧ (parseMethodDescriptor yX1_exit.desc).map (fun d => d.parameters.length) = some 2 := by decide +kernel
abbrev cX1_await : ByteArray := prog_3_method_15_code
def yX1_await : MethodName := ⟨RX1, "await", "(I)I"⟩
def wsX1_await : List Cond := .code yX1_await cX1_await 6 (some .int) :: lw_gd
theorem cdX1_await : Cond.code yX1_await cX1_await 6 (some .int) ∈ lw_gd := gdm (i := 322) (by decide +kernel) rfl
theorem imX1_await : Cond.instanceMethod yX1_await ∈ lw_gd := by decide +kernel
theorem seX1_await : Cond.selects RX1 yX1_await yX1_await ∈ lw_gd := by decide +kernel
theorem hdX1_await : yX1_await.cls = RX1 ∧ yX1_await.cls ≠ "java/lang/invoke/MethodHandle" ∧ yX1_await.cls ≠ "java/lang/invoke/VarHandle" ∧ (parseMethodDescriptor yX1_await.desc).map (fun d => d.parameters.length) = some 1 := by decide +kernel
abbrev cX1_waitsFor : ByteArray := prog_3_method_17_code
def yX1_waitsFor : MethodName := ⟨RX1, "waitsFor", "(III)I"⟩
def wsX1_waitsFor : List Cond := .code yX1_waitsFor cX1_waitsFor 4 (some .int) :: lw_gd
theorem cdX1_waitsFor : Cond.code yX1_waitsFor cX1_waitsFor 4 (some .int) ∈ lw_gd := gdm (i := 326) (by decide +kernel) rfl
theorem imX1_waitsFor : Cond.instanceMethod yX1_waitsFor ∈ lw_gd := by decide +kernel
theorem seX1_waitsFor : Cond.selects RX1 yX1_waitsFor yX1_waitsFor ∈ lw_gd := by decide +kernel
theorem hdX1_waitsFor : yX1_waitsFor.cls = RX1 ∧ yX1_waitsFor.cls ≠ "java/lang/invoke/MethodHandle" ∧ yX1_waitsFor.cls ≠ "java/lang/invoke/VarHandle" ∧ (parseMethodDescriptor yX1_waitsFor.desc).map (fun d => d.parameters.length) = some 3 := by decide +kernel
abbrev cX1_remove : ByteArray := prog_3_method_10_code
def yX1_remove : MethodName := ⟨RX1, "remove", "(I)V"⟩
def wsX1_remove : List Cond := .code yX1_remove cX1_remove 3 none :: lw_gd
theorem cdX1_remove : Cond.code yX1_remove cX1_remove 3 none ∈ lw_gd := gdm (i := 330) (by decide +kernel) rfl
theorem imX1_remove : Cond.instanceMethod yX1_remove ∈ lw_gd := by decide +kernel
theorem seX1_remove : Cond.selects RX1 yX1_remove yX1_remove ∈ lw_gd := by decide +kernel
theorem hdX1_remove : yX1_remove.cls = RX1 ∧ yX1_remove.cls ≠ "java/lang/invoke/MethodHandle" ∧ yX1_remove.cls ≠ "java/lang/invoke/VarHandle" ∧ (parseMethodDescriptor yX1_remove.desc).map (fun d => d.parameters.length) = some 1 := by decide +kernel
abbrev cX1_status : ByteArray := prog_3_method_16_code
def yX1_status : MethodName := ⟨RX1, "status", "()I"⟩
def wsX1_status : List Cond := .code yX1_status cX1_status 1 (some .int) :: lw_gd
theorem cdX1_status : Cond.code yX1_status cX1_status 1 (some .int) ∈ lw_gd := gdm (i := 334) (by decide +kernel) rfl
theorem imX1_status : Cond.instanceMethod yX1_status ∈ lw_gd := by decide +kernel
theorem seX1_status : Cond.selects RX1 yX1_status yX1_status ∈ lw_gd := by decide +kernel
theorem hdX1_status : yX1_status.cls = RX1 ∧ yX1_status.cls ≠ "java/lang/invoke/MethodHandle" ∧ yX1_status.cls ≠ "java/lang/invoke/VarHandle" ∧ (parseMethodDescriptor yX1_status.desc).map (fun d => d.parameters.length) = some 0 := by decide +kernel
abbrev cX1_block : ByteArray := prog_3_method_18_code
def yX1_block : MethodName := ⟨RX1, "block", "(II)I"⟩
def wsX1_block : List Cond := .code yX1_block cX1_block 4 (some .int) :: lw_gd
theorem cdX1_block : Cond.code yX1_block cX1_block 4 (some .int) ∈ lw_gd := gdm (i := 338) (by decide +kernel) rfl
theorem imX1_block : Cond.instanceMethod yX1_block ∈ lw_gd := by decide +kernel
theorem seX1_block : Cond.selects RX1 yX1_block yX1_block ∈ lw_gd := by decide +kernel
theorem hdX1_block : yX1_block.cls = RX1 ∧ yX1_block.cls ≠ "java/lang/invoke/MethodHandle" ∧ yX1_block.cls ≠ "java/lang/invoke/VarHandle" ∧ (parseMethodDescriptor yX1_block.desc).map (fun d => d.parameters.length) = some 2 := by decide +kernel
abbrev cX1_sleep : ByteArray := prog_3_method_19_code
def yX1_sleep : MethodName := ⟨RX1, "sleep", "(II)I"⟩
def wsX1_sleep : List Cond := .code yX1_sleep cX1_sleep 4 (some .int) :: lw_gd
theorem cdX1_sleep : Cond.code yX1_sleep cX1_sleep 4 (some .int) ∈ lw_gd := gdm (i := 342) (by decide +kernel) rfl
theorem imX1_sleep : Cond.instanceMethod yX1_sleep ∈ lw_gd := by decide +kernel
theorem seX1_sleep : Cond.selects RX1 yX1_sleep yX1_sleep ∈ lw_gd := by decide +kernel
theorem hdX1_sleep : yX1_sleep.cls = RX1 ∧ yX1_sleep.cls ≠ "java/lang/invoke/MethodHandle" ∧ yX1_sleep.cls ≠ "java/lang/invoke/VarHandle" ∧ (parseMethodDescriptor yX1_sleep.desc).map (fun d => d.parameters.length) = some 2 := by decide +kernel
abbrev cX1_wake : ByteArray := prog_3_method_20_code
def yX1_wake : MethodName := ⟨RX1, "wake", "(I)I"⟩
def wsX1_wake : List Cond := .code yX1_wake cX1_wake 4 (some .int) :: lw_gd
theorem cdX1_wake : Cond.code yX1_wake cX1_wake 4 (some .int) ∈ lw_gd := gdm (i := 347) (by decide +kernel) rfl
theorem imX1_wake : Cond.instanceMethod yX1_wake ∈ lw_gd := by decide +kernel
theorem seX1_wake : Cond.selects RX1 yX1_wake yX1_wake ∈ lw_gd := by decide +kernel
theorem hdX1_wake : yX1_wake.cls = RX1 ∧ yX1_wake.cls ≠ "java/lang/invoke/MethodHandle" ∧ yX1_wake.cls ≠ "java/lang/invoke/VarHandle" ∧ (parseMethodDescriptor yX1_wake.desc).map (fun d => d.parameters.length) = some 1 := by decide +kernel
abbrev cX1_rest : ByteArray := prog_3_method_21_code
def yX1_rest : MethodName := ⟨RX1, "rest", "(I)I"⟩
def wsX1_rest : List Cond := .code yX1_rest cX1_rest 3 (some .int) :: lw_gd
theorem cdX1_rest : Cond.code yX1_rest cX1_rest 3 (some .int) ∈ lw_gd := gdm (i := 351) (by decide +kernel) rfl
theorem imX1_rest : Cond.instanceMethod yX1_rest ∈ lw_gd := by decide +kernel
theorem seX1_rest : Cond.selects RX1 yX1_rest yX1_rest ∈ lw_gd := by decide +kernel
theorem hdX1_rest : yX1_rest.cls = RX1 ∧ yX1_rest.cls ≠ "java/lang/invoke/MethodHandle" ∧ yX1_rest.cls ≠ "java/lang/invoke/VarHandle" ∧ (parseMethodDescriptor yX1_rest.desc).map (fun d => d.parameters.length) = some 1 := by decide +kernel
abbrev cX1_tick : ByteArray := prog_3_method_22_code
def yX1_tick : MethodName := ⟨RX1, "tick", "()I"⟩
def wsX1_tick : List Cond := .code yX1_tick cX1_tick 2 (some .int) :: lw_gd
theorem cdX1_tick : Cond.code yX1_tick cX1_tick 2 (some .int) ∈ lw_gd := gdm (i := 355) (by decide +kernel) rfl
theorem imX1_tick : Cond.instanceMethod yX1_tick ∈ lw_gd := by decide +kernel
theorem seX1_tick : Cond.selects RX1 yX1_tick yX1_tick ∈ lw_gd := by decide +kernel
theorem hdX1_tick : yX1_tick.cls = RX1 ∧ yX1_tick.cls ≠ "java/lang/invoke/MethodHandle" ∧ yX1_tick.cls ≠ "java/lang/invoke/VarHandle" ∧ (parseMethodDescriptor yX1_tick.desc).map (fun d => d.parameters.length) = some 0 := by decide +kernel
abbrev cX1_kill : ByteArray := prog_3_method_23_code
def yX1_kill : MethodName := ⟨RX1, "kill", "(I)Z"⟩
def wsX1_kill : List Cond := .code yX1_kill cX1_kill 3 (some .boolean) :: lw_gd
theorem cdX1_kill : Cond.code yX1_kill cX1_kill 3 (some .boolean) ∈ lw_gd := gdm (i := 359) (by decide +kernel) rfl
theorem imX1_kill : Cond.instanceMethod yX1_kill ∈ lw_gd := by decide +kernel
theorem seX1_kill : Cond.selects RX1 yX1_kill yX1_kill ∈ lw_gd := by decide +kernel
theorem hdX1_kill : yX1_kill.cls = RX1 ∧ yX1_kill.cls ≠ "java/lang/invoke/MethodHandle" ∧ yX1_kill.cls ≠ "java/lang/invoke/VarHandle" ∧ (parseMethodDescriptor yX1_kill.desc).map (fun d => d.parameters.length) = some 1 := by decide +kernel
abbrev cX1_ofNumber : ByteArray := prog_3_method_4_code
def yX1_ofNumber : MethodName := ⟨RX1, "ofNumber", "(I)I"⟩
def wsX1_ofNumber : List Cond := .code yX1_ofNumber cX1_ofNumber 4 (some .int) :: lw_gd
theorem cdX1_ofNumber : Cond.code yX1_ofNumber cX1_ofNumber 4 (some .int) ∈ lw_gd := gdm (i := 363) (by decide +kernel) rfl
theorem imX1_ofNumber : Cond.instanceMethod yX1_ofNumber ∈ lw_gd := by decide +kernel
theorem seX1_ofNumber : Cond.selects RX1 yX1_ofNumber yX1_ofNumber ∈ lw_gd := by decide +kernel
theorem hdX1_ofNumber : yX1_ofNumber.cls = RX1 ∧ yX1_ofNumber.cls ≠ "java/lang/invoke/MethodHandle" ∧ yX1_ofNumber.cls ≠ "java/lang/invoke/VarHandle" ∧ (parseMethodDescriptor yX1_ofNumber.desc).map (fun d => d.parameters.length) = some 1 := by decide +kernel
abbrev cX1_about : ByteArray := prog_3_method_24_code
def yX1_about : MethodName := ⟨RX1, "about", "(II)I"⟩
def wsX1_about : List Cond := .code yX1_about cX1_about 4 (some .int) :: lw_gd
theorem cdX1_about : Cond.code yX1_about cX1_about 4 (some .int) ∈ lw_gd := gdm (i := 367) (by decide +kernel) rfl
theorem imX1_about : Cond.instanceMethod yX1_about ∈ lw_gd := by decide +kernel
theorem seX1_about : Cond.selects RX1 yX1_about yX1_about ∈ lw_gd := by decide +kernel
theorem hdX1_about : yX1_about.cls = RX1 ∧ yX1_about.cls ≠ "java/lang/invoke/MethodHandle" ∧ yX1_about.cls ≠ "java/lang/invoke/VarHandle" ∧ (parseMethodDescriptor yX1_about.desc).map (fun d => d.parameters.length) = some 2 := by decide +kernel
abbrev cX1_count : ByteArray := prog_3_method_25_code
def yX1_count : MethodName := ⟨RX1, "count", "(I)I"⟩
def wsX1_count : List Cond := .code yX1_count cX1_count 4 (some .int) :: lw_gd
theorem cdX1_count : Cond.code yX1_count cX1_count 4 (some .int) ∈ lw_gd := gdm (i := 371) (by decide +kernel) rfl
theorem imX1_count : Cond.instanceMethod yX1_count ∈ lw_gd := by decide +kernel
theorem seX1_count : Cond.selects RX1 yX1_count yX1_count ∈ lw_gd := by decide +kernel
theorem hdX1_count : yX1_count.cls = RX1 ∧ yX1_count.cls ≠ "java/lang/invoke/MethodHandle" ∧ yX1_count.cls ≠ "java/lang/invoke/VarHandle" ∧ (parseMethodDescriptor yX1_count.desc).map (fun d => d.parameters.length) = some 1 := by decide +kernel
abbrev RL : String := "ProcRingLaw"
abbrev cL_cell : ByteArray := method_2_code
def yL_cell : MethodName := ⟨RL, "cell", "([II)I"⟩
def wsL_cell : List Cond := .code yL_cell cL_cell 2 (some .int) :: lw_gd
theorem cdL_cell : Cond.code yL_cell cL_cell 2 (some .int) ∈ lw_gd := gdm (i := 223) (by decide +kernel) rfl
theorem stL_cell : Cond.static yL_cell ∈ lw_gd := by decide +kernel
theorem itL : Cond.initialized RL ∈ lw_gd := by decide +kernel
theorem clL_7 : Cond.classLink RL 7 RX0 ∈ lw_gd := by decide +kernel
theorem lkL_15 : Cond.methodLink RL 15 yX0_init ∈ lw_gd := gdm (i := 34) (by decide +kernel) rfl
theorem lkX0_1 : Cond.methodLink RX0 1 objectInit ∈ lw_gd := gdm (i := 37) (by decide +kernel) rfl
theorem lkX0_9 : Cond.methodLink RX0 9 Lib.Math.min.name ∈ lw_gd := gdm (i := 40) (by decide +kernel) rfl
theorem lkX0_15 : Cond.methodLink RX0 15 Lib.Math.max.name ∈ lw_gd := gdm (i := 43) (by decide +kernel) rfl
theorem lkL_21 : Cond.methodLink RL 21 yX0_first ∈ lw_gd := gdm (i := 88) (by decide +kernel) rfl
theorem lkX0_60 : Cond.methodLink RX0 60 yX0_isEmptyRing ∈ lw_gd := gdm (i := 92) (by decide +kernel) rfl
theorem lkX0_64 : Cond.methodLink RX0 64 yX0_settle ∈ lw_gd := gdm (i := 96) (by decide +kernel) rfl
theorem lkL_26 : Cond.methodLink RL 26 yX0_pick ∈ lw_gd := gdm (i := 100) (by decide +kernel) rfl
theorem lkX0_68 : Cond.methodLink RX0 68 yX0_isProcessor ∈ lw_gd := gdm (i := 104) (by decide +kernel) rfl
theorem lkX0_72 : Cond.methodLink RX0 72 yX0_nextReady ∈ lw_gd := gdm (i := 108) (by decide +kernel) rfl
theorem lkL_31 : Cond.methodLink RL 31 yX0_fork ∈ lw_gd := gdm (i := 112) (by decide +kernel) rfl
theorem lkX0_76 : Cond.methodLink RX0 76 yX0_placeOn ∈ lw_gd := gdm (i := 116) (by decide +kernel) rfl
theorem lkX0_80 : Cond.methodLink RX0 80 yX0_firstFree ∈ lw_gd := gdm (i := 120) (by decide +kernel) rfl
theorem lkL_35 : Cond.methodLink RL 35 yX0_exit ∈ lw_gd := gdm (i := 124) (by decide +kernel) rfl
theorem lkX0_83 : Cond.methodLink RX0 83 yX0_emptyRing ∈ lw_gd := gdm (i := 128) (by decide +kernel) rfl
theorem lkX0_102 : Cond.methodLink RX0 102 yX0_clearPlace ∈ lw_gd := gdm (i := 132) (by decide +kernel) rfl
theorem lkX0_86 : Cond.methodLink RX0 86 yX0_takeOff ∈ lw_gd := gdm (i := 136) (by decide +kernel) rfl
theorem lkX0_89 : Cond.methodLink RX0 89 yX0_handOnChildren ∈ lw_gd := gdm (i := 140) (by decide +kernel) rfl
theorem lkX0_124 : Cond.methodLink RX0 124 yX0_isChild ∈ lw_gd := gdm (i := 144) (by decide +kernel) rfl
theorem lkX0_93 : Cond.methodLink RX0 93 yX0_tellOfZombie ∈ lw_gd := gdm (i := 148) (by decide +kernel) rfl
theorem lkX0_118 : Cond.methodLink RX0 118 yX0_placeOf ∈ lw_gd := gdm (i := 152) (by decide +kernel) rfl
theorem lkX0_105 : Cond.methodLink RX0 105 yX0_isBlockedFor ∈ lw_gd := gdm (i := 156) (by decide +kernel) rfl
theorem lkX0_109 : Cond.methodLink RX0 109 yX0_makeReady ∈ lw_gd := gdm (i := 160) (by decide +kernel) rfl
theorem lkL_40 : Cond.methodLink RL 40 yX0_await ∈ lw_gd := gdm (i := 164) (by decide +kernel) rfl
theorem lkX0_96 : Cond.methodLink RX0 96 yX0_hasChild ∈ lw_gd := gdm (i := 168) (by decide +kernel) rfl
theorem lkX0_99 : Cond.methodLink RX0 99 yX0_firstZombieChild ∈ lw_gd := gdm (i := 172) (by decide +kernel) rfl
theorem lkL_44 : Cond.methodLink RL 44 yX0_status ∈ lw_gd := gdm (i := 176) (by decide +kernel) rfl
theorem lkL_49 : Cond.methodLink RL 49 yX0_block ∈ lw_gd := gdm (i := 180) (by decide +kernel) rfl
theorem lkL_53 : Cond.methodLink RL 53 yX0_sleep ∈ lw_gd := gdm (i := 184) (by decide +kernel) rfl
theorem lkL_57 : Cond.methodLink RL 57 yX0_wake ∈ lw_gd := gdm (i := 188) (by decide +kernel) rfl
theorem lkL_61 : Cond.methodLink RL 61 yX0_rest ∈ lw_gd := gdm (i := 192) (by decide +kernel) rfl
theorem lkL_65 : Cond.methodLink RL 65 yX0_tick ∈ lw_gd := gdm (i := 196) (by decide +kernel) rfl
theorem lkX0_112 : Cond.methodLink RX0 112 yX0_rest ∈ lw_gd := gdm (i := 200) (by decide +kernel) rfl
theorem lkX0_115 : Cond.methodLink RX0 115 yX0_countDown ∈ lw_gd := gdm (i := 201) (by decide +kernel) rfl
theorem lkL_69 : Cond.methodLink RL 69 yX0_kill ∈ lw_gd := gdm (i := 205) (by decide +kernel) rfl
theorem lkL_74 : Cond.methodLink RL 74 yX0_about ∈ lw_gd := gdm (i := 209) (by decide +kernel) rfl
theorem lkX0_121 : Cond.methodLink RX0 121 yX0_processorOf ∈ lw_gd := gdm (i := 213) (by decide +kernel) rfl
theorem lkL_78 : Cond.methodLink RL 78 yX0_count ∈ lw_gd := gdm (i := 217) (by decide +kernel) rfl
theorem lkL_9 : Cond.methodLink RL 9 yL_cell ∈ lw_gd := gdm (i := 221) (by decide +kernel) rfl
theorem clL_18 : Cond.classLink RL 18 RX1 ∈ lw_gd := by decide +kernel
theorem lkL_20 : Cond.methodLink RL 20 yX1_init ∈ lw_gd := gdm (i := 226) (by decide +kernel) rfl
theorem lkX1_1 : Cond.methodLink RX1 1 objectInit ∈ lw_gd := gdm (i := 229) (by decide +kernel) rfl
theorem lkL_25 : Cond.methodLink RL 25 yX1_first ∈ lw_gd := gdm (i := 279) (by decide +kernel) rfl
theorem lkX1_64 : Cond.methodLink RX1 64 yX1_add ∈ lw_gd := gdm (i := 283) (by decide +kernel) rfl
theorem lkL_30 : Cond.methodLink RL 30 yX1_pick ∈ lw_gd := gdm (i := 287) (by decide +kernel) rfl
theorem lkX1_68 : Cond.methodLink RX1 68 yX1_running ∈ lw_gd := gdm (i := 291) (by decide +kernel) rfl
theorem lkX1_48 : Cond.methodLink RX1 48 yX1_ofPlace ∈ lw_gd := gdm (i := 295) (by decide +kernel) rfl
theorem lkX1_71 : Cond.methodLink RX1 71 yX1_state ∈ lw_gd := gdm (i := 299) (by decide +kernel) rfl
theorem lkX1_52 : Cond.methodLink RX1 52 yX1_endedChild ∈ lw_gd := gdm (i := 303) (by decide +kernel) rfl
theorem lkL_34 : Cond.methodLink RL 34 yX1_fork ∈ lw_gd := gdm (i := 307) (by decide +kernel) rfl
theorem lkX1_74 : Cond.methodLink RX1 74 yX1_vacant ∈ lw_gd := gdm (i := 311) (by decide +kernel) rfl
theorem lkL_39 : Cond.methodLink RL 39 yX1_exit ∈ lw_gd := gdm (i := 315) (by decide +kernel) rfl
theorem lkL_43 : Cond.methodLink RL 43 yX1_await ∈ lw_gd := gdm (i := 319) (by decide +kernel) rfl
theorem lkX1_81 : Cond.methodLink RX1 81 yX1_waitsFor ∈ lw_gd := gdm (i := 323) (by decide +kernel) rfl
theorem lkX1_85 : Cond.methodLink RX1 85 yX1_remove ∈ lw_gd := gdm (i := 327) (by decide +kernel) rfl
theorem lkL_48 : Cond.methodLink RL 48 yX1_status ∈ lw_gd := gdm (i := 331) (by decide +kernel) rfl
theorem lkL_52 : Cond.methodLink RL 52 yX1_block ∈ lw_gd := gdm (i := 335) (by decide +kernel) rfl
theorem lkL_56 : Cond.methodLink RL 56 yX1_sleep ∈ lw_gd := gdm (i := 339) (by decide +kernel) rfl
theorem lkL_60 : Cond.methodLink RL 60 yX1_wake ∈ lw_gd := gdm (i := 344) (by decide +kernel) rfl
theorem lkL_64 : Cond.methodLink RL 64 yX1_rest ∈ lw_gd := gdm (i := 348) (by decide +kernel) rfl
theorem lkL_68 : Cond.methodLink RL 68 yX1_tick ∈ lw_gd := gdm (i := 352) (by decide +kernel) rfl
theorem lkL_73 : Cond.methodLink RL 73 yX1_kill ∈ lw_gd := gdm (i := 356) (by decide +kernel) rfl
theorem lkX1_90 : Cond.methodLink RX1 90 yX1_ofNumber ∈ lw_gd := gdm (i := 360) (by decide +kernel) rfl
theorem lkL_77 : Cond.methodLink RL 77 yX1_about ∈ lw_gd := gdm (i := 364) (by decide +kernel) rfl
theorem lkL_81 : Cond.methodLink RL 81 yX1_count ∈ lw_gd := gdm (i := 368) (by decide +kernel) rfl
abbrev vwCl : List vw_C := [(RX0, TX0, 13), (RX1, TX1, 16)]
